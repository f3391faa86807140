/-! ===== on, the reference; the pair ===== -/
section MON
variable {d : Nat} {J : tJ} {R : tR} {last nb : Nat} {nt : Nat → Nat} {T : Nat → Nat}
theorem e_nm {I : tI} {b : Nat} (hm : st_Rm R) (hb : b < 6) (h : I 96 (27 + 4 * b) = am_i (nt b)) : am_E (d + 1) 201 0 [(0, .ref 64), (1, .int (am_i b))] [] (I, J, R, 138) = some (some (.int (am_i (nt b))), (I, J, R, 138)) := by
  rw [e_noteMany hm (by omega) (by omega), Int.toNat_natCast, h]
theorem m_bn {I : tI} {o n : Nat} (hm : st_Rm R) (hn : n ≤ 6) (ho : o ≤ 100) (hT : ∀ j, j < o + 5 + n → T j < 256 ∧ I 65 j = am_i (T j)) : ∀ (m k : Nat), k + m = n → am_E (d + 1) 292 113 [(0, .ref 64), (2, .int (am_i o)), (3, .int (am_i n)), (4, .int (am_i k))] [] (I, J, R, 138) = some (some (.int (b01 (okN T o m k = true))), (I, J, R, 138))
  | 0, k, hk => by
    rw [sg_X12_isBoatTold_113, b01_tt (show okN T o 0 k = true from rfl)]
    simp (disch := first | assumption | omega) only [rM hm, ly_csm, ly_cam, ly_cf, ly_kd, ly_ln, ↓Bool.cond_decide, cond_true, cond_false, ↓bI_p, ↓bV_p, ↓bL_p, bIJ_s, bVJ_s, bLJ_s, ↓am_let_s, Nat.blt, Nat.ble, Bool.and_true, Bool.true_and, Bool.and_self, Int.cast_ofNat_Int, am_i_add, am_i_sub, am_i_mul, am_ok_i, am_i_cl, n_lt, n_le, n_eq, n_lt0, n_le0, n_0lt, n_0le, n_eq0, ne_eq, ↓reduceIte, not_true_eq_false, not_false_eq_true, and_true, true_and, and_false, false_and, eq_T, eq_F, lt_T, lt_F, le_T, le_F, qn_T, qn_F, and_F, b01_T, b01_F, e_isIn, Int32.toInt_toInt64, am_i_toInt, am_l_toInt, Int.toNat_natCast, Int.reduceToNat, Int.reduceAdd, Int.reduceSub, Int.reduceMul, Int.reduceNeg, Nat.reduceAdd, Nat.reduceMul, Nat.add_zero, Nat.mul_zero, Nat.zero_add, am_zb0, am_zb1]
  | m + 1, k, hk => by
    obtain ⟨t1, t2⟩ := hT (o + 5 + k) (by omega)
    have en : ((o : Int) + 5 + (k : Int)).toNat = o + 5 + k := by omega
    rw [sg_X12_isBoatTold_113]
    by_cases q : T (o + 5 + k) < 8
    · have ih := m_bn hm hn ho hT m (k + 1) (by omega)
      rw [show okN T o (m + 1) k = okN T o m (k + 1) from if_pos q]
      simp (disch := first | assumption | omega) only [rM hm, ly_csm, ly_cam, ly_cf, ly_kd, ly_ln, ↓Bool.cond_decide, cond_true, cond_false, ↓bI_p, ↓bV_p, ↓bL_p, bIJ_s, bVJ_s, bLJ_s, ↓am_let_s, Nat.blt, Nat.ble, Bool.and_true, Bool.true_and, Bool.and_self, Int.cast_ofNat_Int, am_i_add, am_i_sub, am_i_mul, am_ok_i, am_i_cl, n_lt, n_le, n_eq, n_lt0, n_le0, n_0lt, n_0le, n_eq0, ne_eq, ↓reduceIte, not_true_eq_false, not_false_eq_true, and_true, true_and, and_false, false_and, eq_T, eq_F, lt_T, lt_F, le_T, le_F, qn_T, qn_F, and_F, b01_T, b01_F, e_isIn, Int32.toInt_toInt64, am_i_toInt, am_l_toInt, Int.toNat_natCast, Int.reduceToNat, Int.reduceAdd, Int.reduceSub, Int.reduceMul, Int.reduceNeg, Nat.reduceAdd, Nat.reduceMul, Nat.add_zero, Nat.mul_zero, Nat.zero_add, am_zb0, am_zb1, en, t2, am_i_s, ih]
    · rw [b01_ff (show okN T o (m + 1) k = false from if_neg q)]
      simp (disch := first | assumption | omega) only [rM hm, ly_csm, ly_cam, ly_cf, ly_kd, ly_ln, ↓Bool.cond_decide, cond_true, cond_false, ↓bI_p, ↓bV_p, ↓bL_p, bIJ_s, bVJ_s, bLJ_s, ↓am_let_s, Nat.blt, Nat.ble, Bool.and_true, Bool.true_and, Bool.and_self, Int.cast_ofNat_Int, am_i_add, am_i_sub, am_i_mul, am_ok_i, am_i_cl, n_lt, n_le, n_eq, n_lt0, n_le0, n_0lt, n_0le, n_eq0, ne_eq, ↓reduceIte, not_true_eq_false, not_false_eq_true, and_true, true_and, and_false, false_and, eq_T, eq_F, lt_T, lt_F, le_T, le_F, qn_T, qn_F, and_F, b01_T, b01_F, e_isIn, Int32.toInt_toInt64, am_i_toInt, am_l_toInt, Int.toNat_natCast, Int.reduceToNat, Int.reduceAdd, Int.reduceSub, Int.reduceMul, Int.reduceNeg, Nat.reduceAdd, Nat.reduceMul, Nat.add_zero, Nat.mul_zero, Nat.zero_add, am_zb0, am_zb1, en, t2]
theorem m_boatTold {I : tI} {o b : Nat} (hm : st_Rm R) (hl : last ≤ 60) (hb : b < 6) (hn : nt b ≤ 6) (ho : o ≤ 100) (h96 : I 96 (27 + 4 * b) = am_i (nt b)) (h93 : I 93 3 = am_i last) (hT : ∀ j, j < o + 5 + nt b → T j < 256 ∧ I 65 j = am_i (T j)) : am_E (d + 2) 292 0 [(0, .ref 64), (1, .int (am_i b)), (2, .int (am_i o))] [] (I, J, R, 138) = some (some (.int (b01 (okB last (nt b) T o = true))), (I, J, R, 138)) := by
  have nm := fun d => e_nm (d := d) (J := J) (I := I) (b := b) (nt := nt) hm hb h96
  generalize nt b = n at *
  obtain ⟨t0, u0⟩ := hT o (by omega)
  obtain ⟨t1, u1⟩ := hT (o + 1) (by omega)
  obtain ⟨t2, u2⟩ := hT (o + 2) (by omega)
  obtain ⟨t3, u3⟩ := hT (o + 3) (by omega)
  obtain ⟨t4, u4⟩ := hT (o + 4) (by omega)
  have n1 : ((o : Int) + 1).toNat = o + 1 := by omega
  have n2 : ((o : Int) + 2).toNat = o + 2 := by omega
  have n3 : ((o : Int) + 3).toNat = o + 3 := by omega
  have n4 : ((o : Int) + 4).toNat = o + 4 := by omega
  have bn : ∀ d, am_E (d + 1) 292 113 [(0, .ref 64), (2, .int (am_i o)), (3, .int (am_i n)), (4, .int (am_i 0))] [] (I, J, R, 138) = _ := fun d => m_bn (d := d) (J := J) hm hn ho hT n 0 (by omega)
  have f84 : ¬ (T (o + 3) = 1 ∧ T o = last) → T o ≤ last → T (o + 1) ≤ 99 → T (o + 2) ≤ 99 → T (o + 3) ≤ 1 → am_E (d + 2) 292 88 [(0, .ref 64), (2, .int (am_i o)), (3, .int (am_i n))] [] (I, J, R, 138) = some (some (.int (b01 (okB last n T o = true))), (I, J, R, 138)) := by
    intro z1 z2 z3 z4 z5
    rw [sg_X12_isBoatTold_88]
    by_cases qn : n = 0
    · by_cases q4 : T (o + 4) ≤ n - 1
      · rw [show okB last n T o = okN T o n 0 from if_pos ⟨z2, z3, z4, z5, z1, q4⟩]
        simp (disch := first | assumption | omega) only [rM hm, ly_csm, ly_cam, ly_cf, ly_kd, ly_ln, ↓Bool.cond_decide, cond_true, cond_false, ↓bI_p, ↓bV_p, ↓bL_p, bIJ_s, bVJ_s, bLJ_s, ↓am_let_s, Nat.blt, Nat.ble, Bool.and_true, Bool.true_and, Bool.and_self, Int.cast_ofNat_Int, am_i_add, am_i_sub, am_i_mul, am_ok_i, am_i_cl, n_lt, n_le, n_eq, n_lt0, n_le0, n_0lt, n_0le, n_eq0, ne_eq, ↓reduceIte, not_true_eq_false, not_false_eq_true, and_true, true_and, and_false, false_and, eq_T, eq_F, lt_T, lt_F, le_T, le_F, qn_T, qn_F, and_F, b01_T, b01_F, e_isIn, Int32.toInt_toInt64, am_i_toInt, am_l_toInt, Int.toNat_natCast, Int.reduceToNat, Int.reduceAdd, Int.reduceSub, Int.reduceMul, Int.reduceNeg, Nat.reduceAdd, Nat.reduceMul, Nat.add_zero, Nat.mul_zero, Nat.zero_add, am_zb0, am_zb1, n4, u4, bn]
      · rw [b01_ff (show okB last n T o = false from if_neg (fun e => q4 e.2.2.2.2.2))]
        simp (disch := first | assumption | omega) only [rM hm, ly_csm, ly_cam, ly_cf, ly_kd, ly_ln, ↓Bool.cond_decide, cond_true, cond_false, ↓bI_p, ↓bV_p, ↓bL_p, bIJ_s, bVJ_s, bLJ_s, ↓am_let_s, Nat.blt, Nat.ble, Bool.and_true, Bool.true_and, Bool.and_self, Int.cast_ofNat_Int, am_i_add, am_i_sub, am_i_mul, am_ok_i, am_i_cl, n_lt, n_le, n_eq, n_lt0, n_le0, n_0lt, n_0le, n_eq0, ne_eq, ↓reduceIte, not_true_eq_false, not_false_eq_true, and_true, true_and, and_false, false_and, eq_T, eq_F, lt_T, lt_F, le_T, le_F, qn_T, qn_F, and_F, b01_T, b01_F, e_isIn, Int32.toInt_toInt64, am_i_toInt, am_l_toInt, Int.toNat_natCast, Int.reduceToNat, Int.reduceAdd, Int.reduceSub, Int.reduceMul, Int.reduceNeg, Nat.reduceAdd, Nat.reduceMul, Nat.add_zero, Nat.mul_zero, Nat.zero_add, am_zb0, am_zb1, n4, u4, sg_X12_isBoatTold_108]
    · by_cases q4 : T (o + 4) ≤ n - 1
      · rw [show okB last n T o = okN T o n 0 from if_pos ⟨z2, z3, z4, z5, z1, q4⟩]
        simp (disch := first | assumption | omega) only [rM hm, ly_csm, ly_cam, ly_cf, ly_kd, ly_ln, ↓Bool.cond_decide, cond_true, cond_false, ↓bI_p, ↓bV_p, ↓bL_p, bIJ_s, bVJ_s, bLJ_s, ↓am_let_s, Nat.blt, Nat.ble, Bool.and_true, Bool.true_and, Bool.and_self, Int.cast_ofNat_Int, am_i_add, am_i_sub, am_i_mul, am_ok_i, am_i_cl, n_lt, n_le, n_eq, n_lt0, n_le0, n_0lt, n_0le, n_eq0, ne_eq, ↓reduceIte, not_true_eq_false, not_false_eq_true, and_true, true_and, and_false, false_and, eq_T, eq_F, lt_T, lt_F, le_T, le_F, qn_T, qn_F, and_F, b01_T, b01_F, e_isIn, Int32.toInt_toInt64, am_i_toInt, am_l_toInt, Int.toNat_natCast, Int.reduceToNat, Int.reduceAdd, Int.reduceSub, Int.reduceMul, Int.reduceNeg, Nat.reduceAdd, Nat.reduceMul, Nat.add_zero, Nat.mul_zero, Nat.zero_add, am_zb0, am_zb1, n4, u4, bn]
      · rw [b01_ff (show okB last n T o = false from if_neg (fun e => q4 e.2.2.2.2.2))]
        simp (disch := first | assumption | omega) only [rM hm, ly_csm, ly_cam, ly_cf, ly_kd, ly_ln, ↓Bool.cond_decide, cond_true, cond_false, ↓bI_p, ↓bV_p, ↓bL_p, bIJ_s, bVJ_s, bLJ_s, ↓am_let_s, Nat.blt, Nat.ble, Bool.and_true, Bool.true_and, Bool.and_self, Int.cast_ofNat_Int, am_i_add, am_i_sub, am_i_mul, am_ok_i, am_i_cl, n_lt, n_le, n_eq, n_lt0, n_le0, n_0lt, n_0le, n_eq0, ne_eq, ↓reduceIte, not_true_eq_false, not_false_eq_true, and_true, true_and, and_false, false_and, eq_T, eq_F, lt_T, lt_F, le_T, le_F, qn_T, qn_F, and_F, b01_T, b01_F, e_isIn, Int32.toInt_toInt64, am_i_toInt, am_l_toInt, Int.toNat_natCast, Int.reduceToNat, Int.reduceAdd, Int.reduceSub, Int.reduceMul, Int.reduceNeg, Nat.reduceAdd, Nat.reduceMul, Nat.add_zero, Nat.mul_zero, Nat.zero_add, am_zb0, am_zb1, n4, u4, sg_X12_isBoatTold_108]
  rw [sg_X12_isBoatTold_0]
  by_cases q0 : last < T o
  · rw [b01_ff (show okB last n T o = false from if_neg (fun e => by have := e.1; omega))]
    simp (disch := first | assumption | omega) only [rM hm, ly_csm, ly_cam, ly_cf, ly_kd, ly_ln, ↓Bool.cond_decide, cond_true, cond_false, ↓bI_p, ↓bV_p, ↓bL_p, bIJ_s, bVJ_s, bLJ_s, ↓am_let_s, Nat.blt, Nat.ble, Bool.and_true, Bool.true_and, Bool.and_self, Int.cast_ofNat_Int, am_i_add, am_i_sub, am_i_mul, am_ok_i, am_i_cl, n_lt, n_le, n_eq, n_lt0, n_le0, n_0lt, n_0le, n_eq0, ne_eq, ↓reduceIte, not_true_eq_false, not_false_eq_true, and_true, true_and, and_false, false_and, eq_T, eq_F, lt_T, lt_F, le_T, le_F, qn_T, qn_F, and_F, b01_T, b01_F, e_isIn, Int32.toInt_toInt64, am_i_toInt, am_l_toInt, Int.toNat_natCast, Int.reduceToNat, Int.reduceAdd, Int.reduceSub, Int.reduceMul, Int.reduceNeg, Nat.reduceAdd, Nat.reduceMul, Nat.add_zero, Nat.mul_zero, Nat.zero_add, am_zb0, am_zb1, nm, n1, n2, n3, u0, h93, sg_X12_isBoatTold_59]
  · by_cases q1 : 99 < T (o + 1)
    · rw [b01_ff (show okB last n T o = false from if_neg (fun e => by have := e.2.1; omega))]
      simp (disch := first | assumption | omega) only [rM hm, ly_csm, ly_cam, ly_cf, ly_kd, ly_ln, ↓Bool.cond_decide, cond_true, cond_false, ↓bI_p, ↓bV_p, ↓bL_p, bIJ_s, bVJ_s, bLJ_s, ↓am_let_s, Nat.blt, Nat.ble, Bool.and_true, Bool.true_and, Bool.and_self, Int.cast_ofNat_Int, am_i_add, am_i_sub, am_i_mul, am_ok_i, am_i_cl, n_lt, n_le, n_eq, n_lt0, n_le0, n_0lt, n_0le, n_eq0, ne_eq, ↓reduceIte, not_true_eq_false, not_false_eq_true, and_true, true_and, and_false, false_and, eq_T, eq_F, lt_T, lt_F, le_T, le_F, qn_T, qn_F, and_F, b01_T, b01_F, e_isIn, Int32.toInt_toInt64, am_i_toInt, am_l_toInt, Int.toNat_natCast, Int.reduceToNat, Int.reduceAdd, Int.reduceSub, Int.reduceMul, Int.reduceNeg, Nat.reduceAdd, Nat.reduceMul, Nat.add_zero, Nat.mul_zero, Nat.zero_add, am_zb0, am_zb1, nm, n1, n2, n3, u0, u1, h93, sg_X12_isBoatTold_59]
    · by_cases q2 : 99 < T (o + 2)
      · rw [b01_ff (show okB last n T o = false from if_neg (fun e => by have := e.2.2.1; omega))]
        simp (disch := first | assumption | omega) only [rM hm, ly_csm, ly_cam, ly_cf, ly_kd, ly_ln, ↓Bool.cond_decide, cond_true, cond_false, ↓bI_p, ↓bV_p, ↓bL_p, bIJ_s, bVJ_s, bLJ_s, ↓am_let_s, Nat.blt, Nat.ble, Bool.and_true, Bool.true_and, Bool.and_self, Int.cast_ofNat_Int, am_i_add, am_i_sub, am_i_mul, am_ok_i, am_i_cl, n_lt, n_le, n_eq, n_lt0, n_le0, n_0lt, n_0le, n_eq0, ne_eq, ↓reduceIte, not_true_eq_false, not_false_eq_true, and_true, true_and, and_false, false_and, eq_T, eq_F, lt_T, lt_F, le_T, le_F, qn_T, qn_F, and_F, b01_T, b01_F, e_isIn, Int32.toInt_toInt64, am_i_toInt, am_l_toInt, Int.toNat_natCast, Int.reduceToNat, Int.reduceAdd, Int.reduceSub, Int.reduceMul, Int.reduceNeg, Nat.reduceAdd, Nat.reduceMul, Nat.add_zero, Nat.mul_zero, Nat.zero_add, am_zb0, am_zb1, nm, n1, n2, n3, u0, u1, u2, h93, sg_X12_isBoatTold_59]
      · by_cases q3 : 1 < T (o + 3)
        · rw [b01_ff (show okB last n T o = false from if_neg (fun e => by have := e.2.2.2.1; omega))]
          simp (disch := first | assumption | omega) only [rM hm, ly_csm, ly_cam, ly_cf, ly_kd, ly_ln, ↓Bool.cond_decide, cond_true, cond_false, ↓bI_p, ↓bV_p, ↓bL_p, bIJ_s, bVJ_s, bLJ_s, ↓am_let_s, Nat.blt, Nat.ble, Bool.and_true, Bool.true_and, Bool.and_self, Int.cast_ofNat_Int, am_i_add, am_i_sub, am_i_mul, am_ok_i, am_i_cl, n_lt, n_le, n_eq, n_lt0, n_le0, n_0lt, n_0le, n_eq0, ne_eq, ↓reduceIte, not_true_eq_false, not_false_eq_true, and_true, true_and, and_false, false_and, eq_T, eq_F, lt_T, lt_F, le_T, le_F, qn_T, qn_F, and_F, b01_T, b01_F, e_isIn, Int32.toInt_toInt64, am_i_toInt, am_l_toInt, Int.toNat_natCast, Int.reduceToNat, Int.reduceAdd, Int.reduceSub, Int.reduceMul, Int.reduceNeg, Nat.reduceAdd, Nat.reduceMul, Nat.add_zero, Nat.mul_zero, Nat.zero_add, am_zb0, am_zb1, nm, n1, n2, n3, u0, u1, u2, u3, h93, sg_X12_isBoatTold_59]
        · by_cases q31 : T (o + 3) = 1
          · by_cases q5 : T o = last
            · rw [b01_ff (show okB last n T o = false from if_neg (fun e => e.2.2.2.2.1 ⟨q31, q5⟩))]
              simp (disch := first | assumption | omega) only [rM hm, ly_csm, ly_cam, ly_cf, ly_kd, ly_ln, ↓Bool.cond_decide, cond_true, cond_false, ↓bI_p, ↓bV_p, ↓bL_p, bIJ_s, bVJ_s, bLJ_s, ↓am_let_s, Nat.blt, Nat.ble, Bool.and_true, Bool.true_and, Bool.and_self, Int.cast_ofNat_Int, am_i_add, am_i_sub, am_i_mul, am_ok_i, am_i_cl, n_lt, n_le, n_eq, n_lt0, n_le0, n_0lt, n_0le, n_eq0, ne_eq, ↓reduceIte, not_true_eq_false, not_false_eq_true, and_true, true_and, and_false, false_and, eq_T, eq_F, lt_T, lt_F, le_T, le_F, qn_T, qn_F, and_F, b01_T, b01_F, e_isIn, Int32.toInt_toInt64, am_i_toInt, am_l_toInt, Int.toNat_natCast, Int.reduceToNat, Int.reduceAdd, Int.reduceSub, Int.reduceMul, Int.reduceNeg, Nat.reduceAdd, Nat.reduceMul, Nat.add_zero, Nat.mul_zero, Nat.zero_add, am_zb0, am_zb1, nm, n1, n2, n3, u0, u1, u2, u3, h93, sg_X12_isBoatTold_108]
            · have f := f84 (fun e => q5 e.2) (by omega) (by omega) (by omega) (by omega)
              simp (disch := first | assumption | omega) only [rM hm, ly_csm, ly_cam, ly_cf, ly_kd, ly_ln, ↓Bool.cond_decide, cond_true, cond_false, ↓bI_p, ↓bV_p, ↓bL_p, bIJ_s, bVJ_s, bLJ_s, ↓am_let_s, Nat.blt, Nat.ble, Bool.and_true, Bool.true_and, Bool.and_self, Int.cast_ofNat_Int, am_i_add, am_i_sub, am_i_mul, am_ok_i, am_i_cl, n_lt, n_le, n_eq, n_lt0, n_le0, n_0lt, n_0le, n_eq0, ne_eq, ↓reduceIte, not_true_eq_false, not_false_eq_true, and_true, true_and, and_false, false_and, eq_T, eq_F, lt_T, lt_F, le_T, le_F, qn_T, qn_F, and_F, b01_T, b01_F, e_isIn, Int32.toInt_toInt64, am_i_toInt, am_l_toInt, Int.toNat_natCast, Int.reduceToNat, Int.reduceAdd, Int.reduceSub, Int.reduceMul, Int.reduceNeg, Nat.reduceAdd, Nat.reduceMul, Nat.add_zero, Nat.mul_zero, Nat.zero_add, am_zb0, am_zb1, nm, n1, n2, n3, u0, u1, u2, u3, h93, f]
          · have f := f84 (fun e => q31 e.1) (by omega) (by omega) (by omega) (by omega)
            simp (disch := first | assumption | omega) only [rM hm, ly_csm, ly_cam, ly_cf, ly_kd, ly_ln, ↓Bool.cond_decide, cond_true, cond_false, ↓bI_p, ↓bV_p, ↓bL_p, bIJ_s, bVJ_s, bLJ_s, ↓am_let_s, Nat.blt, Nat.ble, Bool.and_true, Bool.true_and, Bool.and_self, Int.cast_ofNat_Int, am_i_add, am_i_sub, am_i_mul, am_ok_i, am_i_cl, n_lt, n_le, n_eq, n_lt0, n_le0, n_0lt, n_0le, n_eq0, ne_eq, ↓reduceIte, not_true_eq_false, not_false_eq_true, and_true, true_and, and_false, false_and, eq_T, eq_F, lt_T, lt_F, le_T, le_F, qn_T, qn_F, and_F, b01_T, b01_F, e_isIn, Int32.toInt_toInt64, am_i_toInt, am_l_toInt, Int.toNat_natCast, Int.reduceToNat, Int.reduceAdd, Int.reduceSub, Int.reduceMul, Int.reduceNeg, Nat.reduceAdd, Nat.reduceMul, Nat.add_zero, Nat.mul_zero, Nat.zero_add, am_zb0, am_zb1, nm, n1, n2, n3, u0, u1, u2, u3, h93, f]
theorem m_o91 {I : tI} (hm : st_Rm R) (hl : last ≤ 60) (h6 : nb ≤ 6) (hnt : ∀ b, b < nb → nt b ≤ 6 ∧ I 96 (27 + 4 * b) = am_i (nt b)) (h93 : I 93 3 = am_i last) (h94 : I 94 3 = am_i nb) (hT : ∀ j, j < ofS nt nb → T j < 256 ∧ I 65 j = am_i (T j)) : ∀ (m i : Nat), i + m = nb → am_E (d + 3) 293 91 [(0, .ref 64), (3, .int (am_i (ofS nt i))), (4, .int (am_i i))] [] (I, J, R, 138) = some (some (.int (b01 (okA last nt T m i = true))), (I, J, R, 138))
  | 0, i, hi => by
    have eM := fun d => e_many (d := d) (I := I) (J := J) (nb := nb) hm h94
    rw [sg_X12_isImage_91, b01_tt (show okA last nt T 0 i = true from rfl)]
    simp (disch := first | assumption | omega) only [rM hm, ly_csm, ly_cam, ly_cf, ly_kd, ly_ln, ↓Bool.cond_decide, cond_true, cond_false, ↓bI_p, ↓bV_p, ↓bL_p, bIJ_s, bVJ_s, bLJ_s, ↓am_let_s, Nat.blt, Nat.ble, Bool.and_true, Bool.true_and, Bool.and_self, Int.cast_ofNat_Int, am_i_add, am_i_sub, am_i_mul, am_ok_i, am_i_cl, n_lt, n_le, n_eq, n_lt0, n_le0, n_0lt, n_0le, n_eq0, ne_eq, ↓reduceIte, not_true_eq_false, not_false_eq_true, and_true, true_and, and_false, false_and, eq_T, eq_F, lt_T, lt_F, le_T, le_F, qn_T, qn_F, and_F, b01_T, b01_F, e_isIn, Int32.toInt_toInt64, am_i_toInt, am_l_toInt, Int.toNat_natCast, Int.reduceToNat, Int.reduceAdd, Int.reduceSub, Int.reduceMul, Int.reduceNeg, Nat.reduceAdd, Nat.reduceMul, Nat.add_zero, Nat.mul_zero, Nat.zero_add, am_zb0, am_zb1, eM]
  | m + 1, i, hi => by
    obtain ⟨n6, n4⟩ := hnt i (by omega)
    have eM := fun d => e_many (d := d) (I := I) (J := J) (nb := nb) hm h94
    have nm := fun d => e_nm (d := d) (J := J) (I := I) (b := i) (nt := nt) hm (by omega) n4
    have ob := ofS_b (fun b hb => (hnt b hb).1) i (by omega)
    have om := ofS_m (nt := nt) (b := i) nb (by omega)
    have oe : ofS nt (i + 1) = ofS nt i + (5 + nt i) := rfl
    have br := fun d => m_boatTold (d := d) (J := J) (R := R) (I := I) (last := last) (T := T) (nt := nt) (o := ofS nt i) (b := i) hm hl (by omega) n6 (by omega) n4 h93 (fun j hj => hT j (by omega))
    have es : (ofS nt i : Int) + ((5 : Int) + (nt i : Int)) = ((ofS nt (i + 1) : Nat) : Int) := by omega
    rw [sg_X12_isImage_91]
    by_cases q : okB last (nt i) T (ofS nt i) = true
    · have ih := m_o91 hm hl h6 hnt h93 h94 hT m (i + 1) (by omega)
      rw [show okA last nt T (m + 1) i = okA last nt T m (i + 1) from if_pos q]
      simp (disch := first | assumption | omega) only [rM hm, ly_csm, ly_cam, ly_cf, ly_kd, ly_ln, ↓Bool.cond_decide, cond_true, cond_false, ↓bI_p, ↓bV_p, ↓bL_p, bIJ_s, bVJ_s, bLJ_s, ↓am_let_s, Nat.blt, Nat.ble, Bool.and_true, Bool.true_and, Bool.and_self, Int.cast_ofNat_Int, am_i_add, am_i_sub, am_i_mul, am_ok_i, am_i_cl, n_lt, n_le, n_eq, n_lt0, n_le0, n_0lt, n_0le, n_eq0, ne_eq, ↓reduceIte, not_true_eq_false, not_false_eq_true, and_true, true_and, and_false, false_and, eq_T, eq_F, lt_T, lt_F, le_T, le_F, qn_T, qn_F, and_F, b01_T, b01_F, e_isIn, Int32.toInt_toInt64, am_i_toInt, am_l_toInt, Int.toNat_natCast, Int.reduceToNat, Int.reduceAdd, Int.reduceSub, Int.reduceMul, Int.reduceNeg, Nat.reduceAdd, Nat.reduceMul, Nat.add_zero, Nat.mul_zero, Nat.zero_add, am_zb0, am_zb1, eM, nm, br, b01_t q, es, am_i_s, ih]
    · rw [b01_ff (show okA last nt T (m + 1) i = false from if_neg q)]
      simp (disch := first | assumption | omega) only [rM hm, ly_csm, ly_cam, ly_cf, ly_kd, ly_ln, ↓Bool.cond_decide, cond_true, cond_false, ↓bI_p, ↓bV_p, ↓bL_p, bIJ_s, bVJ_s, bLJ_s, ↓am_let_s, Nat.blt, Nat.ble, Bool.and_true, Bool.true_and, Bool.and_self, Int.cast_ofNat_Int, am_i_add, am_i_sub, am_i_mul, am_ok_i, am_i_cl, n_lt, n_le, n_eq, n_lt0, n_le0, n_0lt, n_0le, n_eq0, ne_eq, ↓reduceIte, not_true_eq_false, not_false_eq_true, and_true, true_and, and_false, false_and, eq_T, eq_F, lt_T, lt_F, le_T, le_F, qn_T, qn_F, and_F, b01_T, b01_F, e_isIn, Int32.toInt_toInt64, am_i_toInt, am_l_toInt, Int.toNat_natCast, Int.reduceToNat, Int.reduceAdd, Int.reduceSub, Int.reduceMul, Int.reduceNeg, Nat.reduceAdd, Nat.reduceMul, Nat.add_zero, Nat.mul_zero, Nat.zero_add, am_zb0, am_zb1, eM, br, b01_f q]
theorem m_isImage {I : tI} {n : Nat} (hm : st_Rm R) (hl : last ≤ 60) (h6 : nb ≤ 6) (hn : n ≤ 1600) (hnt : ∀ b, b < nb → nt b ≤ 6 ∧ I 96 (27 + 4 * b) = am_i (nt b)) (h93 : I 93 3 = am_i last) (h94 : I 94 3 = am_i nb) (h50 : I 64 50 = am_i (if last = 0 then 0 else 1)) (hT : ∀ j, j < n → T j < 256 ∧ I 65 j = am_i (T j)) : ∀ (m i : Nat), i + m = nb → am_E (d + 4) 293 4 [(0, .ref 64), (1, .int (am_i n)), (2, .int (am_i (ofS nt i + 1 : Nat))), (3, .int (am_i i))] [] (I, J, R, 138) = some (some (.int (b01 (last ≠ 0 ∧ okI last nb nt T n = true))), (I, J, R, 138))
  | m + 1, i, hi => by
    obtain ⟨n6, n4⟩ := hnt i (by omega)
    have eM := fun d => e_many (d := d) (I := I) (J := J) (nb := nb) hm h94
    have nm := fun d => e_nm (d := d) (J := J) (I := I) (b := i) (nt := nt) hm (by omega) n4
    have ih := m_isImage hm hl h6 hn hnt h93 h94 h50 hT m (i + 1) (by omega)
    have es : ((ofS nt i + 1 : Nat) : Int) + ((5 : Int) + (nt i : Int)) = ((ofS nt (i + 1) + 1 : Nat) : Int) := by
      have oe : ofS nt (i + 1) = ofS nt i + (5 + nt i) := rfl
      omega
    rw [← ih, sg_X12_isImage_4]
    simp (disch := first | assumption | omega) only [rM hm, ly_csm, ly_cam, ly_cf, ly_kd, ly_ln, ↓Bool.cond_decide, cond_true, cond_false, ↓bI_p, ↓bV_p, ↓bL_p, bIJ_s, bVJ_s, bLJ_s, ↓am_let_s, Nat.blt, Nat.ble, Bool.and_true, Bool.true_and, Bool.and_self, Int.cast_ofNat_Int, am_i_add, am_i_sub, am_i_mul, am_ok_i, am_i_cl, n_lt, n_le, n_eq, n_lt0, n_le0, n_0lt, n_0le, n_eq0, ne_eq, ↓reduceIte, not_true_eq_false, not_false_eq_true, and_true, true_and, and_false, false_and, eq_T, eq_F, lt_T, lt_F, le_T, le_F, qn_T, qn_F, and_F, b01_T, b01_F, e_isIn, Int32.toInt_toInt64, am_i_toInt, am_l_toInt, Int.toNat_natCast, Int.reduceToNat, Int.reduceAdd, Int.reduceSub, Int.reduceMul, Int.reduceNeg, Nat.reduceAdd, Nat.reduceMul, Nat.add_zero, Nat.mul_zero, Nat.zero_add, am_zb0, am_zb1, eM, nm, es, am_i_s]
  | 0, i, hi => by
    have : i = nb := by omega
    subst this
    have eM := fun d => e_many (d := d) (I := I) (J := J) (nb := i) hm h94
    have ob := ofS_b (fun b hb => (hnt b hb).1) i (Nat.le_refl _)
    have o2 := ofS_2 (nt := nt) i
    rw [sg_X12_isImage_4]
    by_cases q0 : last = 0
    · rw [if_pos q0] at h50
      rw [b01_f (fun e => e.1 q0)]
      simp (disch := first | assumption | omega) only [rM hm, ly_csm, ly_cam, ly_cf, ly_kd, ly_ln, ↓Bool.cond_decide, cond_true, cond_false, ↓bI_p, ↓bV_p, ↓bL_p, bIJ_s, bVJ_s, bLJ_s, ↓am_let_s, Nat.blt, Nat.ble, Bool.and_true, Bool.true_and, Bool.and_self, Int.cast_ofNat_Int, am_i_add, am_i_sub, am_i_mul, am_ok_i, am_i_cl, n_lt, n_le, n_eq, n_lt0, n_le0, n_0lt, n_0le, n_eq0, ne_eq, ↓reduceIte, not_true_eq_false, not_false_eq_true, and_true, true_and, and_false, false_and, eq_T, eq_F, lt_T, lt_F, le_T, le_F, qn_T, qn_F, and_F, b01_T, b01_F, e_isIn, Int32.toInt_toInt64, am_i_toInt, am_l_toInt, Int.toNat_natCast, Int.reduceToNat, Int.reduceAdd, Int.reduceSub, Int.reduceMul, Int.reduceNeg, Nat.reduceAdd, Nat.reduceMul, Nat.add_zero, Nat.mul_zero, Nat.zero_add, am_zb0, am_zb1, eM, h50, sg_X12_isImage_84]
    · rw [if_neg q0] at h50
      by_cases q : n = ofS nt i + 1
      · have ck : ∀ d, am_E (d + 1) 288 6 [(0, .ref 65), (1, .int (am_i (ofS nt i))), (2, .int (am_i 193)), (3, .int (am_i 0))] [] (I, J, R, 138) = some (some (.int (am_i (ckS T (ofS nt i) 0 193))), (I, J, R, 138)) := fun d => m_check (d := d) (J := J) (R := R) (I := I) (a := 65) (ln := 1600) (n := ofS nt i) (G := T) (fun i => by simp only [ly_csm]) (by omega) (by omega) (fun j hj => ⟨by have := (hT j (by omega)).1; omega, (hT j (by omega)).2⟩) (ofS nt i) 0 193 (by omega) (by omega)
        have cb := ckS_b (G := T) (ofS nt i) 0 193 (by omega)
        obtain ⟨t0, u0⟩ := hT 0 (by omega)
        obtain ⟨t1, u1⟩ := hT 1 (by omega)
        obtain ⟨tn, un⟩ := hT (ofS nt i) (by omega)
        have e1 : ((ofS nt i + 1 : Nat) : Int) - 1 = ((ofS nt i : Nat) : Int) := by omega
        have e2 : (256 : Int) * (T 0 : Int) + (T 1 : Int) = ((T 0 * 256 + T 1 : Nat) : Int) := by omega
        by_cases q1 : T (ofS nt i) = ckS T (ofS nt i) 0 193
        · by_cases q2 : T 0 * 256 + T 1 ≤ 999
          · have o58 : ∀ d, am_E (d + 3) 293 91 [(0, .ref 64), (3, .int (am_i 2)), (4, .int (am_i 0))] [] (I, J, R, 138) = _ := fun d => m_o91 (d := d) (J := J) (nt := nt) (T := T) hm hl h6 hnt h93 h94 (fun j hj => hT j (by omega)) i 0 (by omega)
            have ee : okI last i nt T n = okA last nt T i 0 := if_pos ⟨q, q1, q2⟩
            have eb : b01 (last ≠ 0 ∧ okI last i nt T n = true) = b01 (okA last nt T i 0 = true) := by
              rw [ee]
              by_cases qq : okA last nt T i 0 = true
              · rw [b01_t qq, b01_t ⟨q0, qq⟩]
              · rw [b01_f qq, b01_f (fun e => qq e.2)]
            rw [eb, q]
            simp (disch := first | assumption | omega) only [rM hm, ly_csm, ly_cam, ly_cf, ly_kd, ly_ln, ↓Bool.cond_decide, cond_true, cond_false, ↓bI_p, ↓bV_p, ↓bL_p, bIJ_s, bVJ_s, bLJ_s, ↓am_let_s, Nat.blt, Nat.ble, Bool.and_true, Bool.true_and, Bool.and_self, Int.cast_ofNat_Int, am_i_add, am_i_sub, am_i_mul, am_ok_i, am_i_cl, n_lt, n_le, n_eq, n_lt0, n_le0, n_0lt, n_0le, n_eq0, ne_eq, ↓reduceIte, not_true_eq_false, not_false_eq_true, and_true, true_and, and_false, false_and, eq_T, eq_F, lt_T, lt_F, le_T, le_F, qn_T, qn_F, and_F, b01_T, b01_F, e_isIn, Int32.toInt_toInt64, am_i_toInt, am_l_toInt, Int.toNat_natCast, Int.reduceToNat, Int.reduceAdd, Int.reduceSub, Int.reduceMul, Int.reduceNeg, Nat.reduceAdd, Nat.reduceMul, Nat.add_zero, Nat.mul_zero, Nat.zero_add, am_zb0, am_zb1, eM, h50, e1, sg_X12_checked_0, ck, un, u0, u1, e2, o58]
          · rw [b01_f (fun e => absurd e.2 (by rw [show okI last i nt T n = false from if_neg (fun e => q2 e.2.2)]; decide)), q]
            simp (disch := first | assumption | omega) only [rM hm, ly_csm, ly_cam, ly_cf, ly_kd, ly_ln, ↓Bool.cond_decide, cond_true, cond_false, ↓bI_p, ↓bV_p, ↓bL_p, bIJ_s, bVJ_s, bLJ_s, ↓am_let_s, Nat.blt, Nat.ble, Bool.and_true, Bool.true_and, Bool.and_self, Int.cast_ofNat_Int, am_i_add, am_i_sub, am_i_mul, am_ok_i, am_i_cl, n_lt, n_le, n_eq, n_lt0, n_le0, n_0lt, n_0le, n_eq0, ne_eq, ↓reduceIte, not_true_eq_false, not_false_eq_true, and_true, true_and, and_false, false_and, eq_T, eq_F, lt_T, lt_F, le_T, le_F, qn_T, qn_F, and_F, b01_T, b01_F, e_isIn, Int32.toInt_toInt64, am_i_toInt, am_l_toInt, Int.toNat_natCast, Int.reduceToNat, Int.reduceAdd, Int.reduceSub, Int.reduceMul, Int.reduceNeg, Nat.reduceAdd, Nat.reduceMul, Nat.add_zero, Nat.mul_zero, Nat.zero_add, am_zb0, am_zb1, eM, h50, e1, sg_X12_checked_0, ck, un, u0, u1, e2, sg_X12_isImage_84]
        · rw [b01_f (fun e => absurd e.2 (by rw [show okI last i nt T n = false from if_neg (fun e => q1 e.2.1)]; decide)), q]
          simp (disch := first | assumption | omega) only [rM hm, ly_csm, ly_cam, ly_cf, ly_kd, ly_ln, ↓Bool.cond_decide, cond_true, cond_false, ↓bI_p, ↓bV_p, ↓bL_p, bIJ_s, bVJ_s, bLJ_s, ↓am_let_s, Nat.blt, Nat.ble, Bool.and_true, Bool.true_and, Bool.and_self, Int.cast_ofNat_Int, am_i_add, am_i_sub, am_i_mul, am_ok_i, am_i_cl, n_lt, n_le, n_eq, n_lt0, n_le0, n_0lt, n_0le, n_eq0, ne_eq, ↓reduceIte, not_true_eq_false, not_false_eq_true, and_true, true_and, and_false, false_and, eq_T, eq_F, lt_T, lt_F, le_T, le_F, qn_T, qn_F, and_F, b01_T, b01_F, e_isIn, Int32.toInt_toInt64, am_i_toInt, am_l_toInt, Int.toNat_natCast, Int.reduceToNat, Int.reduceAdd, Int.reduceSub, Int.reduceMul, Int.reduceNeg, Nat.reduceAdd, Nat.reduceMul, Nat.add_zero, Nat.mul_zero, Nat.zero_add, am_zb0, am_zb1, eM, h50, e1, sg_X12_checked_0, ck, un, sg_X12_isImage_84]
      · rw [b01_f (fun e => absurd e.2 (by rw [show okI last i nt T n = false from if_neg (fun e => q e.1)]; decide))]
        simp (disch := first | assumption | omega) only [rM hm, ly_csm, ly_cam, ly_cf, ly_kd, ly_ln, ↓Bool.cond_decide, cond_true, cond_false, ↓bI_p, ↓bV_p, ↓bL_p, bIJ_s, bVJ_s, bLJ_s, ↓am_let_s, Nat.blt, Nat.ble, Bool.and_true, Bool.true_and, Bool.and_self, Int.cast_ofNat_Int, am_i_add, am_i_sub, am_i_mul, am_ok_i, am_i_cl, n_lt, n_le, n_eq, n_lt0, n_le0, n_0lt, n_0le, n_eq0, ne_eq, ↓reduceIte, not_true_eq_false, not_false_eq_true, and_true, true_and, and_false, false_and, eq_T, eq_F, lt_T, lt_F, le_T, le_F, qn_T, qn_F, and_F, b01_T, b01_F, e_isIn, Int32.toInt_toInt64, am_i_toInt, am_l_toInt, Int.toNat_natCast, Int.reduceToNat, Int.reduceAdd, Int.reduceSub, Int.reduceMul, Int.reduceNeg, Nat.reduceAdd, Nat.reduceMul, Nat.add_zero, Nat.mul_zero, Nat.zero_add, am_zb0, am_zb1, eM, h50, sg_X12_isImage_84]
theorem m_on68 {I0 : tI} {i : Nat} (hm : st_Rm R) (h6 : nb ≤ 6) (hib : i < nb) (hnt : ∀ b, b < nb → nt b ≤ 6 ∧ I0 96 (27 + 4 * b) = am_i (nt b)) (hT : ∀ j, j < ofS nt nb → I0 65 j = am_i (T j)) : ∀ (m k : Nat) (I : tI), k + m = 5 + nt i → (∀ q j, q ≠ 103 → I q j = I0 q j) → ∃ I', am_E (d + 2) 294 68 [(0, .ref 64), (2, .int (am_i (ofS nt i + k : Nat))), (3, .int (am_i i)), (4, .int (am_i k))] [] (I, J, R, 138) = am_E (d + 2) 294 57 [(0, .ref 64), (2, .int (am_i (ofS nt (i + 1)))), (3, .int (am_i (i + 1 : Nat)))] [] (I', J, R, 138) ∧ (∀ q j, q ≠ 103 → I' q j = I0 q j) ∧ (∀ j, k ≤ j → j < 5 + nt i → I' 103 (1 + 11 * i + j) = am_i (T (ofS nt i + j))) ∧ ∀ j, ¬ (1 + 11 * i + k ≤ j ∧ j < 1 + 11 * i + (5 + nt i)) → I' 103 j = I 103 j
  | 0, k, I, hk, hI => by
    obtain ⟨n6, n4⟩ := hnt i hib
    have oe : ofS nt (i + 1) = ofS nt i + (5 + nt i) := rfl
    have nm := fun d => e_nm (d := d) (J := J) (I := I) (b := i) (nt := nt) hm (by omega) (by rw [hI _ _ (by omega)]; exact n4)
    refine ⟨I, ?_, hI, fun j j1 j2 => absurd j2 (by omega), fun _ _ => rfl⟩
    rw [sg_X12_on_68, show ofS nt i + k = ofS nt (i + 1) by omega]
    simp (disch := first | assumption | omega) only [↓Bool.cond_decide, cond_true, cond_false, ↓am_let_s, ↓bI_p, bIJ_s, ↓bV_p, bVJ_s, ↓bL_p, bLJ_s, ly_cf, Bool.and_self, Bool.and_true, am_i_add, am_i_sub, am_i_mul, am_ok_i, am_i_cl, n_lt, n_le, n_eq, n_lt0, n_le0, n_0lt, n_0le, n_eq0, ne_eq, ↓reduceIte, not_true_eq_false, not_false_eq_true, and_true, true_and, and_false, false_and, eq_T, eq_F, lt_T, lt_F, le_T, le_F, qn_T, qn_F, and_F, b01_T, b01_F, e_isIn, Int32.toInt_toInt64, am_i_toInt, am_l_toInt, Int.toNat_natCast, Int.reduceToNat, Int.reduceAdd, Int.reduceSub, Int.reduceMul, Int.reduceNeg, Nat.reduceAdd, Nat.reduceMul, Nat.add_zero, Nat.mul_zero, Nat.zero_add, am_zb0, am_zb1, nm, am_i_s]
  | m + 1, k, I, hk, hI => by
    obtain ⟨n6, n4⟩ := hnt i hib
    have ob := ofS_b (fun b hb => (hnt b hb).1) i (by omega)
    have om := ofS_m (nt := nt) (b := i) nb (by omega)
    have oe : ofS nt (i + 1) = ofS nt i + (5 + nt i) := rfl
    have nm := fun d => e_nm (d := d) (J := J) (I := I) (b := i) (nt := nt) hm (by omega) (by rw [hI _ _ (by omega)]; exact n4)
    have en : ((1 : Int) + 11 * (i : Int) + (k : Int)).toNat = 1 + 11 * i + k := by omega
    have e65 : I 65 (ofS nt i + k) = am_i (T (ofS nt i + k)) := by rw [hI _ _ (by omega)]; exact hT _ (by omega)
    have es : ((ofS nt i + k : Nat) : Int) + 1 = ((ofS nt i + (k + 1) : Nat) : Int) := by omega
    have et : (((ofS nt i + k : Nat) : Int)).toNat = ofS nt i + k := by omega
    obtain ⟨I', p1, p2, p3, p4⟩ := m_on68 hm h6 hib hnt hT m (k + 1) (am_up I 103 (1 + 11 * i + k) (am_i (T (ofS nt i + k)))) (by omega) (fun q j h => by rw [am_up_o (by omega)]; exact hI q j h)
    refine ⟨I', ?_, p2, fun j j1 j2 => ?_, fun j hj => ?_⟩
    · rw [← p1, sg_X12_on_68]
      simp (disch := first | assumption | omega) only [rM hm, ly_csm, ly_cam, ly_cf, ly_kd, ly_ln, ↓Bool.cond_decide, cond_true, cond_false, ↓bI_p, ↓bV_p, ↓bL_p, bIJ_s, bVJ_s, bLJ_s, ↓am_let_s, Nat.blt, Nat.ble, Bool.and_true, Bool.true_and, Bool.and_self, Int.cast_ofNat_Int, am_i_add, am_i_sub, am_i_mul, am_ok_i, am_i_cl, n_lt, n_le, n_eq, n_lt0, n_le0, n_0lt, n_0le, n_eq0, ne_eq, ↓reduceIte, not_true_eq_false, not_false_eq_true, and_true, true_and, and_false, false_and, eq_T, eq_F, lt_T, lt_F, le_T, le_F, qn_T, qn_F, and_F, b01_T, b01_F, e_isIn, Int32.toInt_toInt64, am_i_toInt, am_l_toInt, Int.toNat_natCast, Int.reduceToNat, Int.reduceAdd, Int.reduceSub, Int.reduceMul, Int.reduceNeg, Nat.reduceAdd, Nat.reduceMul, Nat.add_zero, Nat.mul_zero, Nat.zero_add, am_zb0, am_zb1, nm, en, et, e65, es, am_i_s]
    · by_cases e : j = k
      · rw [e, p4 _ (by omega), am_up_e]
      · exact p3 j (by omega) j2
    · rw [p4 j (by omega), am_up_o (by omega)]
theorem m_on57 {I0 : tI} (hm : st_Rm R) (h6 : nb ≤ 6) (h94 : I0 94 3 = am_i nb) (hnt : ∀ b, b < nb → nt b ≤ 6 ∧ I0 96 (27 + 4 * b) = am_i (nt b)) (hT : ∀ j, j < ofS nt nb → I0 65 j = am_i (T j)) : ∀ (m i : Nat) (I : tI), i + m = nb → (∀ q j, q ≠ 103 → I q j = I0 q j) → ∃ I', am_E (d + 2) 294 57 [(0, .ref 64), (2, .int (am_i (ofS nt i))), (3, .int (am_i i))] [] (I, J, R, 138) = some (some (.int (am_i 1)), (am_up (am_up I' 103 67 (am_i 0)) 64 68 (am_i 0), J, R, 138)) ∧ (∀ q j, q ≠ 103 → I' q j = I0 q j) ∧ (∀ b, i ≤ b → b < nb → ∀ j, j < 5 + nt b → I' 103 (1 + 11 * b + j) = am_i (T (ofS nt b + j))) ∧ ∀ j, j < 1 + 11 * i → I' 103 j = I 103 j
  | 0, i, I, hi, hI => by
    have : i = nb := by omega
    subst this
    have eM := fun d => e_many (d := d) (I := I) (J := J) (nb := i) hm (by rw [hI _ _ (by omega)]; exact h94)
    refine ⟨I, ?_, hI, fun b b1 b2 => absurd b2 (by omega), fun _ _ => rfl⟩
    rw [sg_X12_on_57]
    simp (disch := first | assumption | omega) only [rM hm, ly_csm, ly_cam, ly_cf, ly_kd, ly_ln, ↓Bool.cond_decide, cond_true, cond_false, ↓bI_p, ↓bV_p, ↓bL_p, bIJ_s, bVJ_s, bLJ_s, ↓am_let_s, Nat.blt, Nat.ble, Bool.and_true, Bool.true_and, Bool.and_self, Int.cast_ofNat_Int, am_i_add, am_i_sub, am_i_mul, am_ok_i, am_i_cl, n_lt, n_le, n_eq, n_lt0, n_le0, n_0lt, n_0le, n_eq0, ne_eq, ↓reduceIte, not_true_eq_false, not_false_eq_true, and_true, true_and, and_false, false_and, eq_T, eq_F, lt_T, lt_F, le_T, le_F, qn_T, qn_F, and_F, b01_T, b01_F, e_isIn, Int32.toInt_toInt64, am_i_toInt, am_l_toInt, Int.toNat_natCast, Int.reduceToNat, Int.reduceAdd, Int.reduceSub, Int.reduceMul, Int.reduceNeg, Nat.reduceAdd, Nat.reduceMul, Nat.add_zero, Nat.mul_zero, Nat.zero_add, am_zb0, am_zb1, eM]
  | m + 1, i, I, hi, hI => by
    have eM := fun d => e_many (d := d) (I := I) (J := J) (nb := nb) hm (by rw [hI _ _ (by omega)]; exact h94)
    obtain ⟨n6, n4⟩ := hnt i (by omega)
    obtain ⟨I1, g1, g2, g3, g4⟩ := m_on68 (d := d) (J := J) (R := R) (I0 := I0) (i := i) (T := T) hm h6 (by omega) hnt hT (5 + nt i) 0 I (by omega) hI
    have g1' : am_E (d + 2) 294 68 [(0, .ref 64), (2, .int (am_i (ofS nt i))), (3, .int (am_i i)), (4, .int (am_i 0))] [] (I, J, R, 138) = _ := g1
    obtain ⟨I', p1, p2, p3, p4⟩ := m_on57 hm h6 h94 hnt hT m (i + 1) I1 (by omega) g2
    refine ⟨I', ?_, p2, fun b h1 h2 j hj => ?_, fun j hj => ?_⟩
    · rw [← p1, ← g1', sg_X12_on_57]
      simp (disch := first | assumption | omega) only [rM hm, ly_csm, ly_cam, ly_cf, ly_kd, ly_ln, ↓Bool.cond_decide, cond_true, cond_false, ↓bI_p, ↓bV_p, ↓bL_p, bIJ_s, bVJ_s, bLJ_s, ↓am_let_s, Nat.blt, Nat.ble, Bool.and_true, Bool.true_and, Bool.and_self, Int.cast_ofNat_Int, am_i_add, am_i_sub, am_i_mul, am_ok_i, am_i_cl, n_lt, n_le, n_eq, n_lt0, n_le0, n_0lt, n_0le, n_eq0, ne_eq, ↓reduceIte, not_true_eq_false, not_false_eq_true, and_true, true_and, and_false, false_and, eq_T, eq_F, lt_T, lt_F, le_T, le_F, qn_T, qn_F, and_F, b01_T, b01_F, e_isIn, Int32.toInt_toInt64, am_i_toInt, am_l_toInt, Int.toNat_natCast, Int.reduceToNat, Int.reduceAdd, Int.reduceSub, Int.reduceMul, Int.reduceNeg, Nat.reduceAdd, Nat.reduceMul, Nat.add_zero, Nat.mul_zero, Nat.zero_add, am_zb0, am_zb1, eM]
    · by_cases e : b = i
      · subst e
        rw [p4 _ (by omega)]
        exact g3 j (by omega) hj
      · exact p3 b (by omega) h2 j hj
    · rw [p4 j (by omega), g4 j (by omega)]
end MON
/-- a boat as an image tells it -/
def btO (f : Nat → Nat) : bt := (f 0, f 1, f 2, f 3, f 4, fun k => f (5 + k))
theorem btO_X {g : Nat → Int32} {o n : Nat} {f : Nat → Nat} (h : ∀ k, k < 5 + n → g (o + k) = am_i (f k)) : bX g o n (btO f) := ⟨h 0 (by omega), h 1 (by omega), h 2 (by omega), h 3 (by omega), h 4 (by omega), fun k hk => by
  have := h (5 + k) (by omega)
  rw [show o + (5 + k) = o + 5 + k by omega] at this
  exact this⟩
section PON
variable {L : Nat} {xs : Nat → Int32}
theorem p_on (d : Nat) : pr_I (vV restW L xs) (d + 5) 134 294 [] := by
  refine pW_I ?_
  intro I J R hV
  have hV0 := hV
  obtain ⟨⟨h1, h2, hx, hm, hmu⟩, ht, hr, hf, hp, hs, hd, hw⟩ := hV
  obtain ⟨c, last, nb, nr, nw, wd, sq, K, nt, wf, fm, h4, hc, hB, hN, hF, ⟨h, s, ⟨hh, e66, g0, hbt⟩, ⟨ek, gk, hkp⟩, hKh⟩, hA, hX⟩ := hw
  obtain ⟨b1, b2, b3, b4, b5, b6, b7, b8, i0, m0, i1, m1, i2, m2, i3, m3, i4, m4, i5, m5, mS, mT, hnt, hky, hwf⟩ := hB
  have hBB : restB I c last nb nr nw wd sq nt wf := ⟨b1, b2, b3, b4, b5, b6, b7, b8, i0, m0, i1, m1, i2, m2, i3, m3, i4, m4, i5, m5, mS, mT, hnt, hky, hwf⟩
  obtain ⟨n, T, hn, t1, t2, hT⟩ := tape_T ht
  have xH := fun d => e_hasSound (d := d) (J := J) hx h4 hc b2 i0
  have isx := fun d => x_isOf (d := d) (J := J) (R := R) (I := I) (c := c) (last := last) (nb := nb) (nt := nt) (T := T) (n := n) hx hc b2 b3 hn (fun b hb => ⟨(hnt b hb).1, (hnt b hb).2.1⟩) i0 i1 (fun j hj => ⟨(hT j hj).1, (hT j hj).2.1⟩)
  have ob := ofS_b (fun b hb => (hnt b hb).1) nb (Nat.le_refl _)
  have o2 := ofS_2 (nt := nt) nb
  by_cases hq : last ≠ 0 ∧ okI last nb nt T n = true
  · obtain ⟨q0, q1⟩ := hq
    refine ⟨am_i 1, ?_⟩
    have q2 : n = ofS nt nb + 1 ∧ T 0 * 256 + T 1 ≤ 999 ∧ okA last nt T nb 0 = true := by
      unfold okI at q1
      split at q1
      · next e => exact ⟨e.1, e.2.2, q1⟩
      · cases q1
    obtain ⟨qn, q999, qA⟩ := q2
    have u0 := (hT 0 (by omega)).2.1
    have u1 := (hT 1 (by omega)).2.1
    have e2 : (T 0 : Int) * 256 + (T 1 : Int) = ((T 0 * 256 + T 1 : Nat) : Int) := by omega
    have e3 : (256 : Int) * (T 0 : Int) + (T 1 : Int) = ((T 0 * 256 + T 1 : Nat) : Int) := by omega
    obtain ⟨I1, p1, p2, p3, p4⟩ := x_r20 (d := d + 3) (J := J) (R := R) (I0 := I) (nt := nt) (T := T) hx hc b3 (fun b hb => ⟨(hnt b hb).1, (hnt b hb).2.1⟩) i1 (fun j hj => (hT j (by omega)).2.1) nb 0 (am_up I 31 66 (am_i ((T 0 * 256 + T 1 : Nat) : Int))) (by omega) (fun q k e => am_up_o (by omega))
    have p1' : am_E (d + 4) 62 20 [(0, .ref 4), (1, .ref c), (2, .ref 31), (3, .int (am_i 2)), (4, .int (am_i 0))] [] (am_up I 31 66 (am_i ((T 0 * 256 + T 1 : Nat) : Int)), J, R, 138) = _ := p1
    have cl : am_E (d + 5) 134 0 [(0, .ref 3)] [] (I, J, R, 138) = some (some (.int (am_i 1)), (am_up (am_up (am_up I1 31 67 (am_i 0)) 33 2 (am_i 0)) 3 1 (am_i 0), J, R, 138)) := by
      rw [sg_X11_on_0]
      simp (disch := first | assumption | omega) only [rX hx, ly_csx, ly_cax, ly_cf, ly_kd, ly_ln, ↓Bool.cond_decide, cond_true, cond_false, ↓bI_p, ↓bV_p, ↓bL_p, bIJ_s, bVJ_s, bLJ_s, ↓am_let_s, Nat.blt, Nat.ble, Bool.and_true, Bool.true_and, Bool.and_self, Int.cast_ofNat_Int, xH, if_neg q0, am_i_add, am_i_sub, am_i_mul, am_ok_i, am_i_cl, n_lt, n_le, n_eq, n_lt0, n_le0, n_0lt, n_0le, n_eq0, ne_eq, ↓reduceIte, not_true_eq_false, not_false_eq_true, and_true, true_and, and_false, false_and, eq_T, eq_F, lt_T, lt_F, le_T, le_F, qn_T, qn_F, and_F, b01_T, b01_F, e_isIn, Int32.toInt_toInt64, am_i_toInt, am_l_toInt, Int.toNat_natCast, Int.reduceToNat, Int.reduceAdd, Int.reduceSub, Int.reduceMul, Int.reduceNeg, Nat.reduceAdd, Nat.reduceMul, Nat.add_zero, Nat.mul_zero, Nat.zero_add, am_zb0, am_zb1, t1, h4, isx, b01_t q1, sg_X7_read_0, u0, u1, e2, p1', sg_X11_forgetActs_0, sg_X11_on_54, sg_X11_on_71]
    have g3 : ∀ q k, q ≠ 31 → ¬ (q = 33 ∧ k = 2) → ¬ (q = 3 ∧ k = 1) → am_up (am_up (am_up I1 31 67 (am_i 0)) 33 2 (am_i 0)) 3 1 (am_i 0) q k = I q k := fun q k h1 h2 h3 => by rw [am_up_o h3, am_up_o h2, am_up_o (by omega)]; exact p3 q k h1
    have g31 : ∀ k, k ≠ 67 → am_up (am_up (am_up I1 31 67 (am_i 0)) 33 2 (am_i 0)) 3 1 (am_i 0) 31 k = I1 31 k := fun k h1 => by rw [am_up_o (by omega), am_up_o (by omega), am_up_o (by omega)]
    have g67 : am_up (am_up (am_up I1 31 67 (am_i 0)) 33 2 (am_i 0)) 3 1 (am_i 0) 31 67 = am_i 0 := by rw [am_up_o (by omega), am_up_o (by omega), am_up_e]
    have g332 : am_up (am_up (am_up I1 31 67 (am_i 0)) 33 2 (am_i 0)) 3 1 (am_i 0) 33 2 = am_i 0 := by rw [am_up_o (by omega), am_up_e]
    have g31_ : am_up (am_up (am_up I1 31 67 (am_i 0)) 33 2 (am_i 0)) 3 1 (am_i 0) 3 1 = am_i 0 := am_up_e
    generalize am_up (am_up (am_up I1 31 67 (am_i 0)) 33 2 (am_i 0)) 3 1 (am_i 0) = I2 at *
    refine Wp_e cl (Wp_r ⟨I2, J, R, rfl, rfl, funext (fun k => g3 1 k (by omega) (by omega) (by omega)), rfl, ?_⟩)
    have k3 : ∀ q k, q ≠ 31 → ¬ (q = 33 ∧ k = 2) → ¬ (q = 3 ∧ k = 1) → ¬ (q = 64 ∧ k = 1) → am_up I2 64 1 (am_i 0) q k = I q k := fun q k h1 h2 h3 h4 => by rw [am_up_o h4]; exact g3 q k h1 h2 h3
    have tM : I2 64 1 = am_i n := by rw [g3 _ _ (by omega) (by omega) (by omega)]; exact t2
    have ism : ∀ d, am_E (d + 4) 293 4 [(0, .ref 64), (1, .int (am_i n)), (2, .int (am_i 3)), (3, .int (am_i 0))] [] (am_up I2 64 1 (am_i 0), J, R, 138) = _ := fun d => m_isImage (d := d) (J := J) (R := R) (I := am_up I2 64 1 (am_i 0)) (last := last) (nb := nb) (nt := nt) (T := T) (n := n) hm b2 b3 hn (fun b hb => ⟨(hnt b hb).1, by rw [k3 _ _ (by omega) (by omega) (by omega) (by omega)]; exact (hnt b hb).2.2⟩) (by rw [k3 _ _ (by omega) (by omega) (by omega) (by omega)]; exact m0) (by rw [k3 _ _ (by omega) (by omega) (by omega) (by omega)]; exact m1) (by rw [k3 _ _ (by omega) (by omega) (by omega) (by omega)]; exact mS) (fun j hj => ⟨(hT j hj).1, by rw [k3 _ _ (by omega) (by omega) (by omega) (by omega)]; exact (hT j hj).2.2⟩) nb 0 (by omega)
    have w0 : am_up I2 64 1 (am_i 0) 65 0 = am_i (T 0) := by rw [k3 _ _ (by omega) (by omega) (by omega) (by omega)]; exact (hT 0 (by omega)).2.2
    have w1 : am_up I2 64 1 (am_i 0) 65 1 = am_i (T 1) := by rw [k3 _ _ (by omega) (by omega) (by omega) (by omega)]; exact (hT 1 (by omega)).2.2
    obtain ⟨I3, v1, v2, v3, v4⟩ := m_on57 (d := d + 3) (J := J) (R := R) (I0 := am_up I2 64 1 (am_i 0)) (nb := nb) (nt := nt) (T := T) hm b3 (by rw [k3 _ _ (by omega) (by omega) (by omega) (by omega)]; exact m1) (fun b hb => ⟨(hnt b hb).1, by rw [k3 _ _ (by omega) (by omega) (by omega) (by omega)]; exact (hnt b hb).2.2⟩) (fun j hj => by rw [k3 _ _ (by omega) (by omega) (by omega) (by omega)]; exact (hT j (by omega)).2.2) nb 0 (am_up (am_up I2 64 1 (am_i 0)) 103 0 (am_i ((T 0 * 256 + T 1 : Nat) : Int))) (by omega) (fun q k e => am_up_o (by omega))
    have v1' : am_E (d + 5) 294 57 [(0, .ref 64), (2, .int (am_i 2)), (3, .int (am_i 0))] [] (am_up (am_up I2 64 1 (am_i 0)) 103 0 (am_i ((T 0 * 256 + T 1 : Nat) : Int)), J, R, 138) = _ := v1
    have cm : am_E (d + 5) 294 0 [(0, .ref 64)] [] (I2, J, R, 138) = some (some (.int (am_i 1)), (am_up (am_up I3 103 67 (am_i 0)) 64 68 (am_i 0), J, R, 138)) := by
      rw [sg_X12_on_0]
      simp (disch := first | assumption | omega) only [rM hm, ly_csm, ly_cam, ly_cf, ly_kd, ly_ln, ↓Bool.cond_decide, cond_true, cond_false, ↓bI_p, ↓bV_p, ↓bL_p, bIJ_s, bVJ_s, bLJ_s, ↓am_let_s, Nat.blt, Nat.ble, Bool.and_true, Bool.true_and, Bool.and_self, Int.cast_ofNat_Int, tM, sg_X12_isImage_0, ism, b01_t (show last ≠ 0 ∧ okI last nb nt T n = true from ⟨q0, q1⟩), b01_t q1, am_i_add, am_i_sub, am_i_mul, am_ok_i, am_i_cl, n_lt, n_le, n_eq, n_lt0, n_le0, n_0lt, n_0le, n_eq0, ne_eq, ↓reduceIte, not_true_eq_false, not_false_eq_true, and_true, true_and, and_false, false_and, eq_T, eq_F, lt_T, lt_F, le_T, le_F, qn_T, qn_F, and_F, b01_T, b01_F, e_isIn, Int32.toInt_toInt64, am_i_toInt, am_l_toInt, Int.toNat_natCast, Int.reduceToNat, Int.reduceAdd, Int.reduceSub, Int.reduceMul, Int.reduceNeg, Nat.reduceAdd, Nat.reduceMul, Nat.add_zero, Nat.mul_zero, Nat.zero_add, am_zb0, am_zb1, w0, w1, e3, v1']
    have z : ∀ q k, q ≠ 103 → ¬ (q = 64 ∧ k = 68) → am_up (am_up I3 103 67 (am_i 0)) 64 68 (am_i 0) q k = am_up I2 64 1 (am_i 0) q k := fun q k h1 h2 => by rw [am_up_o h2, am_up_o (by omega)]; exact v2 q k h1
    have z103 : ∀ k, k ≠ 67 → am_up (am_up I3 103 67 (am_i 0)) 64 68 (am_i 0) 103 k = I3 103 k := fun k h => by rw [am_up_o (by omega), am_up_o (by omega)]
    have z67 : am_up (am_up I3 103 67 (am_i 0)) 64 68 (am_i 0) 103 67 = am_i 0 := by rw [am_up_o (by omega), am_up_e]
    have z68 : am_up (am_up I3 103 67 (am_i 0)) 64 68 (am_i 0) 64 68 = am_i 0 := am_up_e
    generalize am_up (am_up I3 103 67 (am_i 0)) 64 68 (am_i 0) = I4 at *
    have zz : ∀ q k, q ≠ 103 → ¬ (q = 64 ∧ (k = 68 ∨ k = 1)) → I4 q k = I2 q k := fun q k h1 h2 => by rw [z q k h1 (by omega), am_up_o (by omega)]
    -- the same with the tape as it was
    have y : ∀ q k, ¬ (q = 3 ∧ k = 1) → ¬ (q = 64 ∧ k = 1) → am_up (am_up I4 3 1 (I 3 1)) 64 1 (I 64 1) q k = I4 q k := fun q k h1 h2 => by rw [am_up_o h2, am_up_o h1]
    have y3 : am_up (am_up I4 3 1 (I 3 1)) 64 1 (I 64 1) 3 1 = I 3 1 := by rw [am_up_o (by omega), am_up_e]
    have y64 : am_up (am_up I4 3 1 (I 3 1)) 64 1 (I 64 1) 64 1 = I 64 1 := am_up_e
    generalize am_up (am_up I4 3 1 (I 3 1)) 64 1 (I 64 1) = I5 at *
    have yI : ∀ q k, ¬ sC q k → ¬ kC q k → I5 q k = I q k := fun q k h1 h2 => by
      unfold kC at h2
      by_cases c3 : q = 3 ∧ k = 1
      · rw [c3.1, c3.2]; exact y3
      · by_cases c64 : q = 64 ∧ k = 1
        · rw [c64.1, c64.2]; exact y64
        · rw [y q k c3 c64, zz q k (by omega) (by omega), g3 q k (by omega) (by omega) (by omega)]
    have hst : stR (I5 31) (I5 32) (I5 103) last nb nt 0 := by
      refine ⟨T 0 * 256 + T 1, fun b => btO (fun k => T (ofS nt b + k)), ⟨by omega, ?_, ?_, fun b hb => ⟨?_, btO_X (fun k hk => ?_), btO_X (fun k hk => ?_)⟩⟩, ⟨?_, ?_, fun k hk => absurd hk (by omega)⟩, by omega⟩
      · rw [y _ _ (by omega) (by omega), zz _ _ (by omega) (by omega), g31 _ (by omega), p4 _ (by omega), am_up_e]
      · rw [y _ _ (by omega) (by omega), z103 _ (by omega), v4 _ (by omega), am_up_e]
      · obtain ⟨⟨c0, c1, c2, c3, c4, c5⟩, c6⟩ := okB_t (okA_t nb 0 qA b (by omega) (by omega))
        exact ⟨c0, c1, c2, c3, by show T (ofS nt b + 4) < nt b ∨ T (ofS nt b + 4) = 0; omega, fun e1 e2 => c4 ⟨e1, e2⟩, fun k hk => by
          have := c6 k hk
          show T (ofS nt b + (5 + k)) < 8
          rw [show ofS nt b + (5 + k) = ofS nt b + 5 + k by omega]
          exact this⟩
      · have := (hnt b hb).1
        rw [y _ _ (by omega) (by omega), zz _ _ (by omega) (by omega), g31 _ (by omega)]
        exact p2 b (by omega) hb k hk
      · have := (hnt b hb).1
        rw [y _ _ (by omega) (by omega), z103 _ (by omega)]
        exact v3 b (by omega) hb k hk
      · rw [y _ _ (by omega) (by omega), zz _ _ (by omega) (by omega)]; exact g67
      · rw [y _ _ (by omega) (by omega)]; exact z67
    obtain ⟨na, xa, Kf, a1, a2, a3, a4, a5, a6, a7, a8⟩ := hA
    have hac : actsR I5 last nb nt 0 := by
      refine ⟨0, xa, fun _ => 0, by omega, a2, ?_, ?_, ?_, ?_, rfl, fun j hj => absurd hj (by omega)⟩
      · rw [y _ _ (by omega) (by omega), zz _ _ (by omega) (by omega)]; exact g332
      · rw [y _ _ (by omega) (by omega)]; exact z68
      · rw [y _ _ (by omega) (by omega), zz _ _ (by omega) (by omega), g3 _ _ (by omega) (by omega) (by omega)]; exact a5
      · rw [y _ _ (by omega) (by omega), zz _ _ (by omega) (by omega), g3 _ _ (by omega) (by omega) (by omega)]; exact a6
    have hrr := rR_r hmu
    have hV5 : vV restW L xs I5 J R := vV_k hV0 yI (fun _ _ _ _ => rfl) hrr (restW_K h4 hc hBB hN hF hX yI (fun _ _ _ _ => rfl) hrr hst hac)
    refine Wp_e cm (Wp_r ⟨I4, J, R, rfl, rfl, vV_x hV5 (fun q k _ e => ?_) (fun _ _ _ _ => rfl) hrr ⟨0, by omega, ?_, ?_, fun j hj => absurd hj (by omega)⟩ (fun j hj => ?_) ?_⟩)
    · unfold xC at e
      exact (y q k (by omega) (by omega)).symm
    · rw [zz _ _ (by omega) (by omega)]; exact g31_
    · rw [z _ _ (by omega) (by omega), am_up_e]; rfl
    · rw [zz _ _ (by omega) (by omega), zz _ _ (by omega) (by omega), g3 _ _ (by omega) (by omega) (by omega), g3 _ _ (by omega) (by omega) (by omega)]
      exact hr j hj
    · exact vSeen_cg I _ (fun q j e => by
        unfold dSeen at e
        simp at e
        rw [zz _ _ (by omega) (by omega), g3 _ _ (by omega) (by omega) (by omega)]) hs
  · refine ⟨am_i 0, ?_⟩
    have xF : ∀ d, am_E (d + 1) 155 0 [(0, .ref 3), (1, .int (am_i 5))] [] (am_up I 3 1 (am_i 0), J, R, 138) = some (some (.int (am_i 0)), (am_up (am_up I 3 1 (am_i 0)) 63 5 (I 63 5 + am_i 1), J, R, 138)) := fun d => e_refuse d 5 (by decide) (am_up I 3 1 (am_i 0)) J R hx
    have f29 : am_E (d + 5) 134 29 [(0, .ref 3)] [] (I, J, R, 138) = some (some (.int (am_i 0)), (am_up (am_up I 3 1 (am_i 0)) 63 5 (I 63 5 + am_i 1), J, R, 138)) := by
      rw [sg_X11_on_29]
      simp (disch := first | assumption | omega) only [rX hx, ly_csx, ly_cax, ly_cf, ly_kd, ly_ln, ↓Bool.cond_decide, cond_true, cond_false, ↓bI_p, ↓bV_p, ↓bL_p, bIJ_s, bVJ_s, bLJ_s, ↓am_let_s, Nat.blt, Nat.ble, Bool.and_true, Bool.true_and, Bool.and_self, Int.cast_ofNat_Int, am_i_add, am_i_sub, am_i_mul, am_ok_i, am_i_cl, n_lt, n_le, n_eq, n_lt0, n_le0, n_0lt, n_0le, n_eq0, ne_eq, ↓reduceIte, not_true_eq_false, not_false_eq_true, and_true, true_and, and_false, false_and, eq_T, eq_F, lt_T, lt_F, le_T, le_F, qn_T, qn_F, and_F, b01_T, b01_F, e_isIn, Int32.toInt_toInt64, am_i_toInt, am_l_toInt, Int.toNat_natCast, Int.reduceToNat, Int.reduceAdd, Int.reduceSub, Int.reduceMul, Int.reduceNeg, Nat.reduceAdd, Nat.reduceMul, Nat.add_zero, Nat.mul_zero, Nat.zero_add, am_zb0, am_zb1, sg_X11_on_54, xF]
    have cl : am_E (d + 5) 134 0 [(0, .ref 3)] [] (I, J, R, 138) = some (some (.int (am_i 0)), (am_up (am_up I 3 1 (am_i 0)) 63 5 (I 63 5 + am_i 1), J, R, 138)) := by
      rw [sg_X11_on_0]
      by_cases q0 : last = 0
      · simp (disch := first | assumption | omega) only [rX hx, ly_csx, ly_cax, ly_cf, ly_kd, ly_ln, ↓Bool.cond_decide, cond_true, cond_false, ↓bI_p, ↓bV_p, ↓bL_p, bIJ_s, bVJ_s, bLJ_s, ↓am_let_s, Nat.blt, Nat.ble, Bool.and_true, Bool.true_and, Bool.and_self, Int.cast_ofNat_Int, xH, if_pos q0, am_i_add, am_i_sub, am_i_mul, am_ok_i, am_i_cl, n_lt, n_le, n_eq, n_lt0, n_le0, n_0lt, n_0le, n_eq0, ne_eq, ↓reduceIte, not_true_eq_false, not_false_eq_true, and_true, true_and, and_false, false_and, eq_T, eq_F, lt_T, lt_F, le_T, le_F, qn_T, qn_F, and_F, b01_T, b01_F, e_isIn, Int32.toInt_toInt64, am_i_toInt, am_l_toInt, Int.toNat_natCast, Int.reduceToNat, Int.reduceAdd, Int.reduceSub, Int.reduceMul, Int.reduceNeg, Nat.reduceAdd, Nat.reduceMul, Nat.add_zero, Nat.mul_zero, Nat.zero_add, am_zb0, am_zb1, f29]
      · have q1 : ¬ okI last nb nt T n = true := fun e => hq ⟨q0, e⟩
        simp (disch := first | assumption | omega) only [rX hx, ly_csx, ly_cax, ly_cf, ly_kd, ly_ln, ↓Bool.cond_decide, cond_true, cond_false, ↓bI_p, ↓bV_p, ↓bL_p, bIJ_s, bVJ_s, bLJ_s, ↓am_let_s, Nat.blt, Nat.ble, Bool.and_true, Bool.true_and, Bool.and_self, Int.cast_ofNat_Int, xH, if_neg q0, am_i_add, am_i_sub, am_i_mul, am_ok_i, am_i_cl, n_lt, n_le, n_eq, n_lt0, n_le0, n_0lt, n_0le, n_eq0, ne_eq, ↓reduceIte, not_true_eq_false, not_false_eq_true, and_true, true_and, and_false, false_and, eq_T, eq_F, lt_T, lt_F, le_T, le_F, qn_T, qn_F, and_F, b01_T, b01_F, e_isIn, Int32.toInt_toInt64, am_i_toInt, am_l_toInt, Int.toNat_natCast, Int.reduceToNat, Int.reduceAdd, Int.reduceSub, Int.reduceMul, Int.reduceNeg, Nat.reduceAdd, Nat.reduceMul, Nat.add_zero, Nat.mul_zero, Nat.zero_add, am_zb0, am_zb1, t1, h4, isx, b01_f q1, f29]
    have g : ∀ q j, ¬ (q = 3 ∧ j = 1) → q ≠ 63 → am_up (am_up I 3 1 (am_i 0)) 63 5 (I 63 5 + am_i 1) q j = I q j := fun q j e1 e2 => by rw [am_up_o (by omega), am_up_o e1]
    have g63 : am_up (am_up I 3 1 (am_i 0)) 63 5 (I 63 5 + am_i 1) 63 5 = I 63 5 + am_i 1 := am_up_e
    have g63o : ∀ j, j ≠ 5 → am_up (am_up I 3 1 (am_i 0)) 63 5 (I 63 5 + am_i 1) 63 j = I 63 j := fun j e => by rw [am_up_o (by omega), am_up_o (by omega)]
    have g31 : am_up (am_up I 3 1 (am_i 0)) 63 5 (I 63 5 + am_i 1) 3 1 = am_i 0 := by rw [am_up_o (by omega), am_up_e]
    generalize am_up (am_up I 3 1 (am_i 0)) 63 5 (I 63 5 + am_i 1) = I1 at *
    refine Wp_e cl (Wp_r ⟨I1, J, R, rfl, rfl, funext (fun j => g 1 j (by omega) (by omega)), rfl, ?_⟩)
    have k3 : ∀ q k, ¬ (q = 3 ∧ k = 1) → q ≠ 63 → ¬ (q = 64 ∧ k = 1) → am_up I1 64 1 (am_i 0) q k = I q k := fun q k h1 h2 h3 => by rw [am_up_o h3]; exact g q k h1 h2
    have tM : I1 64 1 = am_i n := by rw [g _ _ (by omega) (by omega)]; exact t2
    have ism : ∀ d, am_E (d + 4) 293 4 [(0, .ref 64), (1, .int (am_i n)), (2, .int (am_i 3)), (3, .int (am_i 0))] [] (am_up I1 64 1 (am_i 0), J, R, 138) = _ := fun d => m_isImage (d := d) (J := J) (R := R) (I := am_up I1 64 1 (am_i 0)) (last := last) (nb := nb) (nt := nt) (T := T) (n := n) hm b2 b3 hn (fun b hb => ⟨(hnt b hb).1, by rw [k3 _ _ (by omega) (by omega) (by omega)]; exact (hnt b hb).2.2⟩) (by rw [k3 _ _ (by omega) (by omega) (by omega)]; exact m0) (by rw [k3 _ _ (by omega) (by omega) (by omega)]; exact m1) (by rw [k3 _ _ (by omega) (by omega) (by omega)]; exact mS) (fun j hj => ⟨(hT j hj).1, by rw [k3 _ _ (by omega) (by omega) (by omega)]; exact (hT j hj).2.2⟩) nb 0 (by omega)
    have e66' : am_up I1 64 1 (am_i 0) 66 5 = I 66 5 := k3 _ _ (by omega) (by omega) (by omega)
    have cm : am_E (d + 5) 294 0 [(0, .ref 64)] [] (I1, J, R, 138) = some (some (.int (am_i 0)), (am_up (am_up I1 64 1 (am_i 0)) 66 5 (I 66 5 + am_i 1), J, R, 138)) := by
      rw [sg_X12_on_0]
      simp (disch := first | assumption | omega) only [rM hm, ly_csm, ly_cam, ly_cf, ly_kd, ly_ln, ↓Bool.cond_decide, cond_true, cond_false, ↓bI_p, ↓bV_p, ↓bL_p, bIJ_s, bVJ_s, bLJ_s, ↓am_let_s, Nat.blt, Nat.ble, Bool.and_true, Bool.true_and, Bool.and_self, Int.cast_ofNat_Int, tM, sg_X12_isImage_0, ism, b01_f hq, am_i_add, am_i_sub, am_i_mul, am_ok_i, am_i_cl, n_lt, n_le, n_eq, n_lt0, n_le0, n_0lt, n_0le, n_eq0, ne_eq, ↓reduceIte, not_true_eq_false, not_false_eq_true, and_true, true_and, and_false, false_and, eq_T, eq_F, lt_T, lt_F, le_T, le_F, qn_T, qn_F, and_F, b01_T, b01_F, e_isIn, Int32.toInt_toInt64, am_i_toInt, am_l_toInt, Int.toNat_natCast, Int.reduceToNat, Int.reduceAdd, Int.reduceSub, Int.reduceMul, Int.reduceNeg, Nat.reduceAdd, Nat.reduceMul, Nat.add_zero, Nat.mul_zero, Nat.zero_add, am_zb0, am_zb1, e66']
    refine Wp_e cm (Wp_r ⟨_, J, R, rfl, rfl, vV_x hV0 (fun q j _ e => ?_) (fun _ _ _ _ => rfl) (rR_r hmu) ⟨0, by omega, ?_, ?_, fun j hj => absurd hj (by omega)⟩ (fun j hj => ?_) ?_⟩)
    · unfold xC at e
      rw [am_up_o (by omega), am_up_o (by omega), g _ _ (by omega) (by omega)]
    · rw [am_up_o (by omega), am_up_o (by omega)]; exact g31
    · rw [am_up_o (by omega), am_up_e]; rfl
    · by_cases c : j = 5
      · subst c
        rw [am_up_o (by omega), am_up_o (by omega), g63, am_up_e, hr 5 (by omega)]
      · rw [am_up_o (by omega), am_up_o (by omega), g63o j c, am_up_o (by omega), am_up_o (by omega), g _ _ (by omega) (by omega)]
        exact hr j hj
    · exact vSeen_cg I _ (fun q j e => by
        unfold dSeen at e
        simp at e
        rw [am_up_o (by omega), am_up_o (by omega), g _ _ (by omega) (by omega)]) hs
end PON
