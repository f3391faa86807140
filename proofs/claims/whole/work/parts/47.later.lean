/-! ===== later, lands ===== -/
section AHEAD
variable {d : Nat} {I : tI} {J : tJ} {R : tR} {c last wd nb n : Nat} {nt wf : Nat → Nat} {fm : Nat → List tok} {h : Nat}
theorem x_ahead {m : Nat} (hx : st_Rx R) (hm : m ≤ 100) (hh : h ≤ 999) (e : I 31 66 = am_i h) : am_E (d + 1) 150 0 [(0, .ref 3), (1, .int (am_i m))] [] (I, J, R, 138) = some (some (.int (am_i (min m (999 - h) : Nat))), (I, J, R, 138)) := by
  have e1 : am_i ((999 : Int) - h) = am_i ((999 - h : Nat) : Int) := by congr 1; omega
  rw [sg_X11_hoursAhead_0]
  by_cases q : 999 - h < m
  · have e2 : min m (999 - h) = 999 - h := by omega
    simp (disch := first | assumption | omega) only [rX hx, ly_csx, ly_cax, ly_cf, ly_kd, ly_ln, ↓Bool.cond_decide, cond_true, cond_false, ↓bI_p, ↓bV_p, ↓bL_p, bIJ_s, bVJ_s, bLJ_s, ↓am_let_s, Nat.blt, Nat.ble, Bool.and_true, Bool.true_and, Bool.and_self, Int.cast_ofNat_Int, am_i_add, am_i_sub, am_i_mul, am_ok_i, am_i_cl, n_lt, n_le, n_eq, n_lt0, n_le0, n_0lt, n_0le, n_eq0, ne_eq, ↓reduceIte, not_true_eq_false, not_false_eq_true, and_true, true_and, and_false, false_and, eq_T, eq_F, lt_T, lt_F, le_T, le_F, qn_T, qn_F, and_F, b01_T, b01_F, e_isIn, Int32.toInt_toInt64, am_i_toInt, am_l_toInt, Int.toNat_natCast, Int.reduceToNat, Int.reduceAdd, Int.reduceSub, Int.reduceMul, Int.reduceNeg, Nat.reduceAdd, Nat.reduceMul, Nat.add_zero, Nat.mul_zero, Nat.zero_add, am_zb0, am_zb1, e, e1, e2]
  · have e2 : min m (999 - h) = m := by omega
    simp (disch := first | assumption | omega) only [rX hx, ly_csx, ly_cax, ly_cf, ly_kd, ly_ln, ↓Bool.cond_decide, cond_true, cond_false, ↓bI_p, ↓bV_p, ↓bL_p, bIJ_s, bVJ_s, bLJ_s, ↓am_let_s, Nat.blt, Nat.ble, Bool.and_true, Bool.true_and, Bool.and_self, Int.cast_ofNat_Int, am_i_add, am_i_sub, am_i_mul, am_ok_i, am_i_cl, n_lt, n_le, n_eq, n_lt0, n_le0, n_0lt, n_0le, n_eq0, ne_eq, ↓reduceIte, not_true_eq_false, not_false_eq_true, and_true, true_and, and_false, false_and, eq_T, eq_F, lt_T, lt_F, le_T, le_F, qn_T, qn_F, and_F, b01_T, b01_F, e_isIn, Int32.toInt_toInt64, am_i_toInt, am_l_toInt, Int.toNat_natCast, Int.reduceToNat, Int.reduceAdd, Int.reduceSub, Int.reduceMul, Int.reduceNeg, Nat.reduceAdd, Nat.reduceMul, Nat.add_zero, Nat.mul_zero, Nat.zero_add, am_zb0, am_zb1, e, e1, e2]
theorem m_isAhead {z : Int} {lo hi : Nat} (hm : st_Rm R) (hh : h ≤ 999) (h0 : I 103 0 = am_i h) (h50 : I 64 50 = am_i (if last = 0 then 0 else 1)) (z1 : -2147483648 ≤ z) (z2 : z < 2147483648) (hlo : lo ≤ 100) (hhi : hi ≤ 100) : am_E (d + 2) 215 0 [(0, .ref 64), (1, .int (am_i z)), (2, .int (am_i lo)), (3, .int (am_i hi))] [] (I, J, R, 138) = some (some (.int (b01 (last ≠ 0 ∧ (lo : Int) ≤ z ∧ z ≤ hi ∧ h + z ≤ 999))), (I, J, R, 138)) := by
  rw [sg_X12_isAhead_0]
  by_cases q0 : last = 0
  · rw [if_pos q0] at h50
    rw [b01_f (fun e => e.1 q0)]
    simp (disch := first | assumption | omega) only [rM hm, ly_csm, ly_cam, ly_cf, ly_kd, ly_ln, ↓Bool.cond_decide, cond_true, cond_false, ↓bI_p, ↓bV_p, ↓bL_p, bIJ_s, bVJ_s, bLJ_s, ↓am_let_s, Nat.blt, Nat.ble, Bool.and_true, Bool.true_and, Bool.and_self, Int.cast_ofNat_Int, am_i_add, am_i_sub, am_i_mul, am_ok_i, am_i_cl, n_lt, n_le, n_eq, n_lt0, n_le0, n_0lt, n_0le, n_eq0, ne_eq, ↓reduceIte, not_true_eq_false, not_false_eq_true, and_true, true_and, and_false, false_and, eq_T, eq_F, lt_T, lt_F, le_T, le_F, qn_T, qn_F, and_F, b01_T, b01_F, e_isIn, Int32.toInt_toInt64, am_i_toInt, am_l_toInt, Int.toNat_natCast, Int.reduceToNat, Int.reduceAdd, Int.reduceSub, Int.reduceMul, Int.reduceNeg, Nat.reduceAdd, Nat.reduceMul, Nat.add_zero, Nat.mul_zero, Nat.zero_add, am_zb0, am_zb1, h50, sg_X12_isAhead_37]
  · rw [if_neg q0] at h50
    by_cases q1 : (lo : Int) ≤ z ∧ z ≤ hi
    · by_cases q2 : h + z ≤ 999
      · rw [b01_t ⟨q0, q1.1, q1.2, q2⟩]
        simp (disch := first | assumption | omega) only [rM hm, ly_csm, ly_cam, ly_cf, ly_kd, ly_ln, ↓Bool.cond_decide, cond_true, cond_false, ↓bI_p, ↓bV_p, ↓bL_p, bIJ_s, bVJ_s, bLJ_s, ↓am_let_s, Nat.blt, Nat.ble, Bool.and_true, Bool.true_and, Bool.and_self, Int.cast_ofNat_Int, am_i_add, am_i_sub, am_i_mul, am_ok_i, am_i_cl, n_lt, n_le, n_eq, n_lt0, n_le0, n_0lt, n_0le, n_eq0, ne_eq, ↓reduceIte, not_true_eq_false, not_false_eq_true, and_true, true_and, and_false, false_and, eq_T, eq_F, lt_T, lt_F, le_T, le_F, qn_T, qn_F, and_F, b01_T, b01_F, e_isIn, Int32.toInt_toInt64, am_i_toInt, am_l_toInt, Int.toNat_natCast, Int.reduceToNat, Int.reduceAdd, Int.reduceSub, Int.reduceMul, Int.reduceNeg, Nat.reduceAdd, Nat.reduceMul, Nat.add_zero, Nat.mul_zero, Nat.zero_add, am_zb0, am_zb1, h50, h0, sg_X12_isAhead_37]
      · rw [b01_f (fun e => q2 e.2.2.2)]
        simp (disch := first | assumption | omega) only [rM hm, ly_csm, ly_cam, ly_cf, ly_kd, ly_ln, ↓Bool.cond_decide, cond_true, cond_false, ↓bI_p, ↓bV_p, ↓bL_p, bIJ_s, bVJ_s, bLJ_s, ↓am_let_s, Nat.blt, Nat.ble, Bool.and_true, Bool.true_and, Bool.and_self, Int.cast_ofNat_Int, am_i_add, am_i_sub, am_i_mul, am_ok_i, am_i_cl, n_lt, n_le, n_eq, n_lt0, n_le0, n_0lt, n_0le, n_eq0, ne_eq, ↓reduceIte, not_true_eq_false, not_false_eq_true, and_true, true_and, and_false, false_and, eq_T, eq_F, lt_T, lt_F, le_T, le_F, qn_T, qn_F, and_F, b01_T, b01_F, e_isIn, Int32.toInt_toInt64, am_i_toInt, am_l_toInt, Int.toNat_natCast, Int.reduceToNat, Int.reduceAdd, Int.reduceSub, Int.reduceMul, Int.reduceNeg, Nat.reduceAdd, Nat.reduceMul, Nat.add_zero, Nat.mul_zero, Nat.zero_add, am_zb0, am_zb1, h50, h0, sg_X12_isAhead_37]
    · rw [b01_f (fun e => q1 ⟨e.2.1, e.2.2.1⟩)]
      simp (disch := first | assumption | omega) only [rM hm, ly_csm, ly_cam, ly_cf, ly_kd, ly_ln, ↓Bool.cond_decide, cond_true, cond_false, ↓bI_p, ↓bV_p, ↓bL_p, bIJ_s, bVJ_s, bLJ_s, ↓am_let_s, Nat.blt, Nat.ble, Bool.and_true, Bool.true_and, Bool.and_self, Int.cast_ofNat_Int, am_i_add, am_i_sub, am_i_mul, am_ok_i, am_i_cl, n_lt, n_le, n_eq, n_lt0, n_le0, n_0lt, n_0le, n_eq0, ne_eq, ↓reduceIte, not_true_eq_false, not_false_eq_true, and_true, true_and, and_false, false_and, eq_T, eq_F, lt_T, lt_F, le_T, le_F, qn_T, qn_F, and_F, b01_T, b01_F, e_isIn, Int32.toInt_toInt64, am_i_toInt, am_l_toInt, Int.toNat_natCast, Int.reduceToNat, Int.reduceAdd, Int.reduceSub, Int.reduceMul, Int.reduceNeg, Nat.reduceAdd, Nat.reduceMul, Nat.add_zero, Nat.mul_zero, Nat.zero_add, am_zb0, am_zb1, h50, sg_X12_isAhead_37]
/-- what of a boat -/
def wvS (w : Int) (x : bt) : Int := if w = 0 then x.mi else if w = 1 then x.ti else if w = 2 then x.ro else if w = 3 then x.su else -1
theorem x_late {z : Nat} {w : Int} (hx : st_Rx R) (h4 : R 3 4 = c) (hc : c = 10 ∨ c = 20) (hR : R 35 1 = c) (hn : n ≤ 6) (hz : z ≤ 60) (w1 : -2147483648 ≤ w) (w2 : w < 2147483648) : ∀ (k i : Nat) (x : bt) (I : tI), i + k = z → cxX c last wd wf fm I → bOK last n x → hullR 35 I n x → Wp (fun r M => ∃ I', r = some (.int (am_i (wvS w (itB last wf fm wd n k x)))) ∧ M = (I', J, R, 138) ∧ ∀ q k, ¬ (35 ≤ q ∧ q ≤ 41) → I' q k = I q k) (am_E (d + 7) 112 43 [(0, .ref 3), (2, .int (am_i z)), (3, .int (am_i w)), (4, .int (am_i i))] [] (I, J, R, 138))
  | 0, i, x, I, hi, hX, hO, hH => by
    obtain ⟨h1, h2, h3, h5, -⟩ := hH
    obtain ⟨k1, k2, k3, k4, -⟩ := hO
    rw [sg_X11_later_43]
    by_cases q0 : w = 0
    · subst q0
      simp (disch := first | assumption | omega) only [rX hx, ly_csx, ly_cax, ly_cf, ly_kd, ly_ln, ↓Bool.cond_decide, cond_true, cond_false, ↓bI_p, ↓bV_p, ↓bL_p, bIJ_s, bVJ_s, bLJ_s, ↓am_let_s, Nat.blt, Nat.ble, Bool.and_true, Bool.true_and, Bool.and_self, Int.cast_ofNat_Int, am_i_add, am_i_sub, am_i_mul, am_ok_i, am_i_cl, n_lt, n_le, n_eq, n_lt0, n_le0, n_0lt, n_0le, n_eq0, ne_eq, ↓reduceIte, not_true_eq_false, not_false_eq_true, and_true, true_and, and_false, false_and, eq_T, eq_F, lt_T, lt_F, le_T, le_F, qn_T, qn_F, and_F, b01_T, b01_F, e_isIn, Int32.toInt_toInt64, am_i_toInt, am_l_toInt, Int.toNat_natCast, Int.reduceToNat, Int.reduceAdd, Int.reduceSub, Int.reduceMul, Int.reduceNeg, Nat.reduceAdd, Nat.reduceMul, Nat.add_zero, Nat.mul_zero, Nat.zero_add, am_zb0, am_zb1, h1]
      exact Wp_r ⟨I, rfl, rfl, fun _ _ _ => rfl⟩
    · by_cases q1 : w = 1
      · subst q1
        simp (disch := first | assumption | omega) only [rX hx, ly_csx, ly_cax, ly_cf, ly_kd, ly_ln, ↓Bool.cond_decide, cond_true, cond_false, ↓bI_p, ↓bV_p, ↓bL_p, bIJ_s, bVJ_s, bLJ_s, ↓am_let_s, Nat.blt, Nat.ble, Bool.and_true, Bool.true_and, Bool.and_self, Int.cast_ofNat_Int, am_i_add, am_i_sub, am_i_mul, am_ok_i, am_i_cl, n_lt, n_le, n_eq, n_lt0, n_le0, n_0lt, n_0le, n_eq0, ne_eq, ↓reduceIte, not_true_eq_false, not_false_eq_true, and_true, true_and, and_false, false_and, eq_T, eq_F, lt_T, lt_F, le_T, le_F, qn_T, qn_F, and_F, b01_T, b01_F, e_isIn, Int32.toInt_toInt64, am_i_toInt, am_l_toInt, Int.toNat_natCast, Int.reduceToNat, Int.reduceAdd, Int.reduceSub, Int.reduceMul, Int.reduceNeg, Nat.reduceAdd, Nat.reduceMul, Nat.add_zero, Nat.mul_zero, Nat.zero_add, am_zb0, am_zb1, h2]
        exact Wp_r ⟨I, rfl, rfl, fun _ _ _ => rfl⟩
      · by_cases q2 : w = 2
        · subst q2
          simp (disch := first | assumption | omega) only [rX hx, ly_csx, ly_cax, ly_cf, ly_kd, ly_ln, ↓Bool.cond_decide, cond_true, cond_false, ↓bI_p, ↓bV_p, ↓bL_p, bIJ_s, bVJ_s, bLJ_s, ↓am_let_s, Nat.blt, Nat.ble, Bool.and_true, Bool.true_and, Bool.and_self, Int.cast_ofNat_Int, am_i_add, am_i_sub, am_i_mul, am_ok_i, am_i_cl, n_lt, n_le, n_eq, n_lt0, n_le0, n_0lt, n_0le, n_eq0, ne_eq, ↓reduceIte, not_true_eq_false, not_false_eq_true, and_true, true_and, and_false, false_and, eq_T, eq_F, lt_T, lt_F, le_T, le_F, qn_T, qn_F, and_F, b01_T, b01_F, e_isIn, Int32.toInt_toInt64, am_i_toInt, am_l_toInt, Int.toNat_natCast, Int.reduceToNat, Int.reduceAdd, Int.reduceSub, Int.reduceMul, Int.reduceNeg, Nat.reduceAdd, Nat.reduceMul, Nat.add_zero, Nat.mul_zero, Nat.zero_add, am_zb0, am_zb1, h3]
          exact Wp_r ⟨I, rfl, rfl, fun _ _ _ => rfl⟩
        · by_cases q3 : w = 3
          · subst q3
            by_cases qs : x.su = 0
            · rw [qs] at h5
              simp (disch := first | assumption | omega) only [rX hx, ly_csx, ly_cax, ly_cf, ly_kd, ly_ln, ↓Bool.cond_decide, cond_true, cond_false, ↓bI_p, ↓bV_p, ↓bL_p, bIJ_s, bVJ_s, bLJ_s, ↓am_let_s, Nat.blt, Nat.ble, Bool.and_true, Bool.true_and, Bool.and_self, Int.cast_ofNat_Int, am_i_add, am_i_sub, am_i_mul, am_ok_i, am_i_cl, n_lt, n_le, n_eq, n_lt0, n_le0, n_0lt, n_0le, n_eq0, ne_eq, ↓reduceIte, not_true_eq_false, not_false_eq_true, and_true, true_and, and_false, false_and, eq_T, eq_F, lt_T, lt_F, le_T, le_F, qn_T, qn_F, and_F, b01_T, b01_F, e_isIn, Int32.toInt_toInt64, am_i_toInt, am_l_toInt, Int.toNat_natCast, Int.reduceToNat, Int.reduceAdd, Int.reduceSub, Int.reduceMul, Int.reduceNeg, Nat.reduceAdd, Nat.reduceMul, Nat.add_zero, Nat.mul_zero, Nat.zero_add, am_zb0, am_zb1, h5]
              exact Wp_r ⟨I, by unfold wvS itB; rw [if_neg (by omega), if_neg (by omega), if_neg (by omega), if_pos rfl, qs]; rfl, rfl, fun _ _ _ => rfl⟩
            · have qs1 : x.su = 1 := by omega
              rw [qs1] at h5
              simp (disch := first | assumption | omega) only [rX hx, ly_csx, ly_cax, ly_cf, ly_kd, ly_ln, ↓Bool.cond_decide, cond_true, cond_false, ↓bI_p, ↓bV_p, ↓bL_p, bIJ_s, bVJ_s, bLJ_s, ↓am_let_s, Nat.blt, Nat.ble, Bool.and_true, Bool.true_and, Bool.and_self, Int.cast_ofNat_Int, am_i_add, am_i_sub, am_i_mul, am_ok_i, am_i_cl, n_lt, n_le, n_eq, n_lt0, n_le0, n_0lt, n_0le, n_eq0, ne_eq, ↓reduceIte, not_true_eq_false, not_false_eq_true, and_true, true_and, and_false, false_and, eq_T, eq_F, lt_T, lt_F, le_T, le_F, qn_T, qn_F, and_F, b01_T, b01_F, e_isIn, Int32.toInt_toInt64, am_i_toInt, am_l_toInt, Int.toNat_natCast, Int.reduceToNat, Int.reduceAdd, Int.reduceSub, Int.reduceMul, Int.reduceNeg, Nat.reduceAdd, Nat.reduceMul, Nat.add_zero, Nat.mul_zero, Nat.zero_add, am_zb0, am_zb1, h5]
              exact Wp_r ⟨I, by unfold wvS itB; rw [if_neg (by omega), if_neg (by omega), if_neg (by omega), if_pos rfl, qs1]; rfl, rfl, fun _ _ _ => rfl⟩
          · simp (disch := first | assumption | omega) only [rX hx, ly_csx, ly_cax, ly_cf, ly_kd, ly_ln, ↓Bool.cond_decide, cond_true, cond_false, ↓bI_p, ↓bV_p, ↓bL_p, bIJ_s, bVJ_s, bLJ_s, ↓am_let_s, Nat.blt, Nat.ble, Bool.and_true, Bool.true_and, Bool.and_self, Int.cast_ofNat_Int, am_i_add, am_i_sub, am_i_mul, am_ok_i, am_i_cl, n_lt, n_le, n_eq, n_lt0, n_le0, n_0lt, n_0le, n_eq0, ne_eq, ↓reduceIte, not_true_eq_false, not_false_eq_true, and_true, true_and, and_false, false_and, eq_T, eq_F, lt_T, lt_F, le_T, le_F, qn_T, qn_F, and_F, b01_T, b01_F, e_isIn, Int32.toInt_toInt64, am_i_toInt, am_l_toInt, Int.toNat_natCast, Int.reduceToNat, Int.reduceAdd, Int.reduceSub, Int.reduceMul, Int.reduceNeg, Nat.reduceAdd, Nat.reduceMul, Nat.add_zero, Nat.mul_zero, Nat.zero_add, am_zb0, am_zb1]
            exact Wp_r ⟨I, by unfold wvS; rw [if_neg q0, if_neg q1, if_neg q2, if_neg q3], rfl, fun _ _ _ => rfl⟩
  | k + 1, i, x, I, hi, hX, hO, hH => by
    have i4 := hX.2.2.1
    rw [sg_X11_later_43]
    simp (disch := first | assumption | omega) only [rX hx, ly_csx, ly_cax, ly_cf, ly_kd, ly_ln, ↓Bool.cond_decide, cond_true, cond_false, ↓bI_p, ↓bV_p, ↓bL_p, bIJ_s, bVJ_s, bLJ_s, ↓am_let_s, Nat.blt, Nat.ble, Bool.and_true, Bool.true_and, Bool.and_self, Int.cast_ofNat_Int, am_i_add, am_i_sub, am_i_mul, am_ok_i, am_i_cl, n_lt, n_le, n_eq, n_lt0, n_le0, n_0lt, n_0le, n_eq0, ne_eq, ↓reduceIte, not_true_eq_false, not_false_eq_true, and_true, true_and, and_false, false_and, eq_T, eq_F, lt_T, lt_F, le_T, le_F, qn_T, qn_F, and_F, b01_T, b01_F, e_isIn, Int32.toInt_toInt64, am_i_toInt, am_l_toInt, Int.toNat_natCast, Int.reduceToNat, Int.reduceAdd, Int.reduceSub, Int.reduceMul, Int.reduceNeg, Nat.reduceAdd, Nat.reduceMul, Nat.add_zero, Nat.mul_zero, Nat.zero_add, am_zb0, am_zb1, h4, rC hx hc, i4]
    refine Wp_I (x_pass hx (Or.inl rfl) hc hR hX hn hO hH hX.2.2.2.1) ?_
    rintro _ _ ⟨I', rfl, rfl, hf, hH'⟩
    refine ⟨_, rfl, ?_⟩
    simp (disch := first | assumption | omega) only [am_i_add, am_i_sub, am_i_mul, am_ok_i, am_i_cl, n_lt, n_le, n_eq, n_lt0, n_le0, n_0lt, n_0le, n_eq0, ne_eq, ↓reduceIte, not_true_eq_false, not_false_eq_true, and_true, true_and, and_false, false_and, eq_T, eq_F, lt_T, lt_F, le_T, le_F, qn_T, qn_F, and_F, b01_T, b01_F, e_isIn, Int32.toInt_toInt64, am_i_toInt, am_l_toInt, Int.toNat_natCast, Int.reduceToNat, Int.reduceAdd, Int.reduceSub, Int.reduceMul, Int.reduceNeg, Nat.reduceAdd, Nat.reduceMul, Nat.add_zero, Nat.mul_zero, Nat.zero_add, am_zb0, am_zb1, ↓am_let_s, am_i_s]
    have g : ∀ q k, ¬ (35 ≤ q ∧ q ≤ 41) → I' q k = I q k := fun q k e => hf q k (hS_f.mpr (by omega))
    refine Wp_m (x_late hx h4 hc hR hn hz w1 w2 k (i + 1) _ I' (by omega) (cxX_c hc (fun q k a1 a2 => g q k (by omega)) hX) (paS_ok hO) hH') ?_
    rintro _ _ ⟨I2, rfl, rfl, hf2⟩
    exact ⟨I2, rfl, rfl, fun q k e => by rw [hf2 q k e, g q k e]⟩
end AHEAD
section PLAT
variable {L : Nat} {xs : Nat → Int32}
theorem p_later (d : Nat) (a1 a2 a3 : Int32) : pr_I (vV restW L xs) (d + 9) 112 226 [(1, .int a1), (2, .int a2), (3, .int a3)] := by
  refine pW_I ?_
  intro I J R hV
  have hV0 := hV
  obtain ⟨⟨h1, h2, hx, hm, hmu⟩, ht, hr, hf, hp, hs, hd, hw⟩ := hV
  obtain ⟨c, last, nb, nr, nw, wd, sq, K, nt, wf, fm, h4, hc, hB, hN, hF, ⟨h, s, ⟨hh, e66, g0, hbt⟩, ⟨ek, gk, hkp⟩, hKh⟩, hA, hX⟩ := hw
  obtain ⟨b1, b2, b3, b4, b5, b6, b7, b8, i0, m0, i1, m1, i2, m2, i3, m3, i4, m4, i5, m5, mS, mT, hnt, hky, hwf⟩ := hB
  obtain ⟨z, z1, z2, rfl⟩ := i32_z a1
  obtain ⟨y, y1, y2, rfl⟩ := i32_z a2
  obtain ⟨w, w1, w2, rfl⟩ := i32_z a3
  have xB := fun d => e_xisBoat d (am_i z) nb c I J R hx h4 hc b3 i1
  have xA : ∀ d, am_E (d + 1) 150 0 [(0, .ref 3), (1, .int (am_i 60))] [] (I, J, R, 138) = some (some (.int (am_i (min 60 (999 - h) : Nat))), (I, J, R, 138)) := fun d => x_ahead (m := 60) hx (by omega) hh e66
  by_cases hq : (0 ≤ z ∧ z < nb) ∧ 0 ≤ y ∧ y ≤ (min 60 (999 - h) : Nat)
  · obtain ⟨b, rfl⟩ : ∃ n : Nat, z = n := ⟨z.toNat, by omega⟩
    obtain ⟨v, rfl⟩ : ∃ n : Nat, y = n := ⟨y.toNat, by omega⟩
    have hb : b < nb := by omega
    have hl0 : last ≠ 0 := fun e => by have := (b8 e).1; omega
    obtain ⟨n6, n1, n2⟩ := hnt b hb
    obtain ⟨hO, hb1, hb2⟩ := hbt b hb
    have hXx : cxX c last wd wf fm I := ⟨i0, b2, i4, b6, fun m hm => ⟨(hwf m hm).1, (hwf m hm).2.1⟩, fun f hf => ⟨(hF hl0 f hf).1, (hF hl0 f hf).2.2⟩⟩
    have hXm : cxM last wd nb nt wf fm I := ⟨m0, b2, m4, b6, m1, b3, fun b hb => ⟨(hnt b hb).1, (hnt b hb).2.2⟩, fun m hm => (hwf m hm).2.2, fun f hf => ⟨(hF hl0 f hf).2.1, (hF hl0 f hf).2.2⟩⟩
    have hRM : rwM nb nt last h s I := ⟨hh, g0, fun b hb => ⟨(hbt b hb).1, (hbt b hb).2.2⟩⟩
    have hnt6 : ∀ b, b < nb → nt b ≤ 6 := fun b hb => (hnt b hb).1
    have hR1 : rR R (am_up R 35 1 c) := rR_u (rR_r hmu) hc (Or.inl rfl)
    have hx1 := rR_x hR1 hx
    have hm1 := rR_m hR1 hm
    have h41 : am_up R 35 1 c 3 4 = c := h4
    refine ⟨am_i (wvS w (itB last wf fm wd (nt b) v (s b))), ?_⟩
    rw [sg_X11_later_0]
    simp (disch := first | assumption | omega) only [rX hx, ly_csx, ly_cax, ly_cf, ly_kd, ly_ln, ↓Bool.cond_decide, cond_true, cond_false, ↓bI_p, ↓bV_p, ↓bL_p, bIJ_s, bVJ_s, bLJ_s, ↓am_let_s, Nat.blt, Nat.ble, Bool.and_true, Bool.true_and, Bool.and_self, Int.cast_ofNat_Int, am_i_add, am_i_sub, am_i_mul, am_ok_i, am_i_cl, n_lt, n_le, n_eq, n_lt0, n_le0, n_0lt, n_0le, n_eq0, ne_eq, ↓reduceIte, not_true_eq_false, not_false_eq_true, and_true, true_and, and_false, false_and, eq_T, eq_F, lt_T, lt_F, le_T, le_F, qn_T, qn_F, and_F, b01_T, b01_F, e_isIn, Int32.toInt_toInt64, am_i_toInt, am_l_toInt, Int.toNat_natCast, Int.reduceToNat, Int.reduceAdd, Int.reduceSub, Int.reduceMul, Int.reduceNeg, Nat.reduceAdd, Nat.reduceMul, Nat.add_zero, Nat.mul_zero, Nat.zero_add, am_zb0, am_zb1, h4, rC hx hc, xB, xA, b01_t]
    refine Wp_V (x_load (s := s b) hx (Or.inl rfl) hc (by omega) n1 n6 hO.2.2.2.1 hb1) ?_
    rintro _ _ ⟨I1, rfl, rfl, hf1, hH⟩
    refine ⟨rfl, ?_⟩
    have hXx1 : cxX c last wd wf fm I1 := cxX_c hc (fun q k a1 a2 => hf1 q k (hS_f.mpr (by omega))) hXx
    have lp := x_late (d := d + 2) (J := J) (last := last) (wd := wd) (wf := wf) (fm := fm) (w := w) hx1 h41 hc am_up_e n6 (show v ≤ 60 by omega) w1 w2 v 0 (s b) I1 (by omega) hXx1 hO hH
    refine Wp_m lp ?_
    rintro _ _ ⟨I2, rfl, rfl, hf2⟩
    have g2 : ∀ q k, ¬ (35 ≤ q ∧ q ≤ 41) → I2 q k = I q k := fun q k e => by
      rw [hf2 q k e, hf1 q k (hS_f.mpr (by omega))]
    refine ⟨I2, J, _, rfl, rfl, funext (fun k => g2 1 k (by omega)), rfl, ?_⟩
    have hXm2 : cxM last wd nb nt wf fm I2 := cxM_c (fun q k a1 a2 => g2 q k (by omega)) hXm
    have mB := fun d => e_misBoat d (am_i b) nb I2 J (am_up R 35 1 c) hm1 b3 hXm2.2.2.2.2.1
    have mA : ∀ d, am_E (d + 2) 215 0 [(0, .ref 64), (1, .int (am_i v)), (2, .int (am_i 0)), (3, .int (am_i 60))] [] (I2, J, am_up R 35 1 c, 138) = _ := fun d => m_isAhead (d := d) (J := J) (z := (v : Int)) (lo := 0) (hi := 60) (last := last) hm1 hh (by rw [g2 _ _ (by omega)]; exact g0) (by rw [g2 _ _ (by omega)]; exact mS) y1 y2 (by omega) (by omega)
    have mAt : last ≠ 0 ∧ (((0 : Nat) : Int)) ≤ (v : Int) ∧ (v : Int) ≤ ((60 : Nat) : Int) ∧ (h : Int) + v ≤ 999 := ⟨hl0, by omega, by omega, by omega⟩
    rw [sg_X12_later_0]
    by_cases hw : 0 ≤ w ∧ w ≤ 3
    · simp (disch := first | assumption | omega) only [ly_csm, am_i_add, am_i_sub, am_i_mul, am_ok_i, am_i_cl, n_lt, n_le, n_eq, n_lt0, n_le0, n_0lt, n_0le, n_eq0, ne_eq, ↓reduceIte, not_true_eq_false, not_false_eq_true, and_true, true_and, and_false, false_and, eq_T, eq_F, lt_T, lt_F, le_T, le_F, qn_T, qn_F, and_F, b01_T, b01_F, e_isIn, Int32.toInt_toInt64, am_i_toInt, am_l_toInt, Int.toNat_natCast, Int.reduceToNat, Int.reduceAdd, Int.reduceSub, Int.reduceMul, Int.reduceNeg, Nat.reduceAdd, Nat.reduceMul, Nat.add_zero, Nat.mul_zero, Nat.zero_add, am_zb0, am_zb1, ↓Bool.cond_decide, cond_true, cond_false, ↓am_let_s, ↓bI_p, bIJ_s, ↓bV_p, bVJ_s, ↓bL_p, bLJ_s, ly_cf, Bool.and_self, Bool.and_true, rM hm1, mB, mA, b01_t hq.1, b01_t mAt]
      refine Wp_V (m_aside hm1) ?_
      rintro _ _ ⟨I3, rfl, rfl, ht3, e3⟩
      refine ⟨rfl, ?_⟩
      simp (disch := first | assumption | omega) only [am_i_add, am_i_sub, am_i_mul, am_ok_i, am_i_cl, n_lt, n_le, n_eq, n_lt0, n_le0, n_0lt, n_0le, n_eq0, ne_eq, ↓reduceIte, not_true_eq_false, not_false_eq_true, and_true, true_and, and_false, false_and, eq_T, eq_F, lt_T, lt_F, le_T, le_F, qn_T, qn_F, and_F, b01_T, b01_F, e_isIn, Int32.toInt_toInt64, am_i_toInt, am_l_toInt, Int.toNat_natCast, Int.reduceToNat, Int.reduceAdd, Int.reduceSub, Int.reduceMul, Int.reduceNeg, Nat.reduceAdd, Nat.reduceMul, Nat.add_zero, Nat.mul_zero, Nat.zero_add, am_zb0, am_zb1, ↓Bool.cond_decide, cond_true, cond_false, ↓am_let_s, ↓bI_p, bIJ_s, ↓bV_p, bVJ_s, ↓bL_p, bLJ_s, ly_cf, Bool.and_self, Bool.and_true]
      have hr3 : rwM nb nt last h s I3 := rwM_c hRM b3 hnt6 (fun k hk => by rw [e3, g2 _ _ (by omega)])
      have go := m_hgo2 (d := d) (R := am_up R 35 1 c) (z := v) hm1 hXm2 (by omega) v 0 h s I3 J (by omega) (by omega) ht3 hr3
      refine Wp_V (Wp_e (sg_X12_hoursGo_0 _ _ _ _) go) ?_
      rintro _ _ ⟨I4, J4, rfl, rfl, hj4, ht4, hr4⟩
      refine ⟨rfl, ?_⟩
      obtain ⟨-, -, hr4⟩ := hr4
      obtain ⟨q0, q1, q2, q3, -⟩ := bX_i.mp (hr4 b hb).2
      rw [itH_b] at q0 q1 q2 q3
      have val : I4 103 ((1 : Int) + 11 * (b : Int) + w).toNat = am_i (wvS w (itB last wf fm wd (nt b) v (s b))) := by
        have hw' : w = 0 ∨ w = 1 ∨ w = 2 ∨ w = 3 := by omega
        rcases hw' with rfl | rfl | rfl | rfl
        · rw [show ((1 : Int) + 11 * (b : Int) + 0).toNat = 1 + 11 * b by omega, q0]; rfl
        · rw [show ((1 : Int) + 11 * (b : Int) + 1).toNat = 2 + 11 * b by omega, q1]; rfl
        · rw [show ((1 : Int) + 11 * (b : Int) + 2).toNat = 3 + 11 * b by omega, q2]; rfl
        · rw [show ((1 : Int) + 11 * (b : Int) + 3).toNat = 4 + 11 * b by omega, q3]; rfl
      simp (disch := first | assumption | omega) only [ly_csm, am_i_add, am_i_sub, am_i_mul, am_ok_i, am_i_cl, n_lt, n_le, n_eq, n_lt0, n_le0, n_0lt, n_0le, n_eq0, ne_eq, ↓reduceIte, not_true_eq_false, not_false_eq_true, and_true, true_and, and_false, false_and, eq_T, eq_F, lt_T, lt_F, le_T, le_F, qn_T, qn_F, and_F, b01_T, b01_F, e_isIn, Int32.toInt_toInt64, am_i_toInt, am_l_toInt, Int.toNat_natCast, Int.reduceToNat, Int.reduceAdd, Int.reduceSub, Int.reduceMul, Int.reduceNeg, Nat.reduceAdd, Nat.reduceMul, Nat.add_zero, Nat.mul_zero, Nat.zero_add, am_zb0, am_zb1, ↓Bool.cond_decide, cond_true, cond_false, ↓am_let_s, ↓bI_p, bIJ_s, ↓bV_p, bVJ_s, ↓bL_p, bLJ_s, ly_cf, Bool.and_self, Bool.and_true, rM hm1, val]
      refine Wp_V (m_back hm1 ht4 (by rw [g2 _ _ (by omega)]; exact mT)) ?_
      rintro _ _ ⟨I5, rfl, rfl, e5⟩
      refine ⟨rfl, ?_⟩
      simp (disch := first | assumption | omega) only [am_i_add, am_i_sub, am_i_mul, am_ok_i, am_i_cl, n_lt, n_le, n_eq, n_lt0, n_le0, n_0lt, n_0le, n_eq0, ne_eq, ↓reduceIte, not_true_eq_false, not_false_eq_true, and_true, true_and, and_false, false_and, eq_T, eq_F, lt_T, lt_F, le_T, le_F, qn_T, qn_F, and_F, b01_T, b01_F, e_isIn, Int32.toInt_toInt64, am_i_toInt, am_l_toInt, Int.toNat_natCast, Int.reduceToNat, Int.reduceAdd, Int.reduceSub, Int.reduceMul, Int.reduceNeg, Nat.reduceAdd, Nat.reduceMul, Nat.add_zero, Nat.mul_zero, Nat.zero_add, am_zb0, am_zb1, rM hm1, val]
      refine Wp_r ⟨I5, J4, _, rfl, rfl, vV_s hV0 (fun q k e => ?_) (fun q k e1 e2 => hj4 q k e1) hR1⟩
      rw [e5 q k e, g2 q k (by unfold sC at e; omega)]
    · have val : wvS w (itB last wf fm wd (nt b) v (s b)) = -1 := by
        unfold wvS
        rw [if_neg (by omega), if_neg (by omega), if_neg (by omega), if_neg (by omega)]
      simp (disch := first | assumption | omega) only [ly_csm, am_i_add, am_i_sub, am_i_mul, am_ok_i, am_i_cl, n_lt, n_le, n_eq, n_lt0, n_le0, n_0lt, n_0le, n_eq0, ne_eq, ↓reduceIte, not_true_eq_false, not_false_eq_true, and_true, true_and, and_false, false_and, eq_T, eq_F, lt_T, lt_F, le_T, le_F, qn_T, qn_F, and_F, b01_T, b01_F, e_isIn, Int32.toInt_toInt64, am_i_toInt, am_l_toInt, Int.toNat_natCast, Int.reduceToNat, Int.reduceAdd, Int.reduceSub, Int.reduceMul, Int.reduceNeg, Nat.reduceAdd, Nat.reduceMul, Nat.add_zero, Nat.mul_zero, Nat.zero_add, am_zb0, am_zb1, ↓Bool.cond_decide, cond_true, cond_false, ↓am_let_s, ↓bI_p, bIJ_s, ↓bV_p, bVJ_s, ↓bL_p, bLJ_s, ly_cf, Bool.and_self, Bool.and_true, rM hm1, mB, mA, b01_t hq.1, b01_t mAt, sg_X12_later_31]
      exact Wp_r ⟨I2, J, _, by rw [val], rfl, vV_s hV0 (fun q k e => g2 q k (by unfold sC at e; omega)) (fun _ _ _ _ => rfl) hR1⟩
  · refine ⟨am_i (-1), ?_⟩
    have mB := fun d => e_misBoat d (am_i z) nb I J R hm b3 m1
    have mA : ∀ d, am_E (d + 2) 215 0 [(0, .ref 64), (1, .int (am_i y)), (2, .int (am_i 0)), (3, .int (am_i 60))] [] (I, J, R, 138) = _ := fun d => m_isAhead (d := d) (J := J) (z := y) (lo := 0) (hi := 60) (last := last) hm hh g0 mS y1 y2 (by omega) (by omega)
    have cl : am_E (d + 9) 112 0 [(0, .ref 3), (1, .int (am_i z)), (2, .int (am_i y)), (3, .int (am_i w))] [] (I, J, R, 138) = some (some (.int (am_i (-1))), (I, J, R, 138)) := by
      rw [sg_X11_later_0]
      by_cases hq2 : 0 ≤ z ∧ z < nb
      · by_cases hy : y < 0
        · simp (disch := first | assumption | omega) only [rX hx, ly_csx, ly_cax, ly_cf, ly_kd, ly_ln, ↓Bool.cond_decide, cond_true, cond_false, ↓bI_p, ↓bV_p, ↓bL_p, bIJ_s, bVJ_s, bLJ_s, ↓am_let_s, Nat.blt, Nat.ble, Bool.and_true, Bool.true_and, Bool.and_self, Int.cast_ofNat_Int, am_i_add, am_i_sub, am_i_mul, am_ok_i, am_i_cl, n_lt, n_le, n_eq, n_lt0, n_le0, n_0lt, n_0le, n_eq0, ne_eq, ↓reduceIte, not_true_eq_false, not_false_eq_true, and_true, true_and, and_false, false_and, eq_T, eq_F, lt_T, lt_F, le_T, le_F, qn_T, qn_F, and_F, b01_T, b01_F, e_isIn, Int32.toInt_toInt64, am_i_toInt, am_l_toInt, Int.toNat_natCast, Int.reduceToNat, Int.reduceAdd, Int.reduceSub, Int.reduceMul, Int.reduceNeg, Nat.reduceAdd, Nat.reduceMul, Nat.add_zero, Nat.mul_zero, Nat.zero_add, am_zb0, am_zb1, h4, rC hx hc, xB, b01_t, sg_X11_later_22]
        · simp (disch := first | assumption | omega) only [rX hx, ly_csx, ly_cax, ly_cf, ly_kd, ly_ln, ↓Bool.cond_decide, cond_true, cond_false, ↓bI_p, ↓bV_p, ↓bL_p, bIJ_s, bVJ_s, bLJ_s, ↓am_let_s, Nat.blt, Nat.ble, Bool.and_true, Bool.true_and, Bool.and_self, Int.cast_ofNat_Int, am_i_add, am_i_sub, am_i_mul, am_ok_i, am_i_cl, n_lt, n_le, n_eq, n_lt0, n_le0, n_0lt, n_0le, n_eq0, ne_eq, ↓reduceIte, not_true_eq_false, not_false_eq_true, and_true, true_and, and_false, false_and, eq_T, eq_F, lt_T, lt_F, le_T, le_F, qn_T, qn_F, and_F, b01_T, b01_F, e_isIn, Int32.toInt_toInt64, am_i_toInt, am_l_toInt, Int.toNat_natCast, Int.reduceToNat, Int.reduceAdd, Int.reduceSub, Int.reduceMul, Int.reduceNeg, Nat.reduceAdd, Nat.reduceMul, Nat.add_zero, Nat.mul_zero, Nat.zero_add, am_zb0, am_zb1, h4, rC hx hc, xB, xA, b01_t, sg_X11_later_22]
      · simp (disch := first | assumption | omega) only [rX hx, ly_csx, ly_cax, ly_cf, ly_kd, ly_ln, ↓Bool.cond_decide, cond_true, cond_false, ↓bI_p, ↓bV_p, ↓bL_p, bIJ_s, bVJ_s, bLJ_s, ↓am_let_s, Nat.blt, Nat.ble, Bool.and_true, Bool.true_and, Bool.and_self, Int.cast_ofNat_Int, am_i_add, am_i_sub, am_i_mul, am_ok_i, am_i_cl, n_lt, n_le, n_eq, n_lt0, n_le0, n_0lt, n_0le, n_eq0, ne_eq, ↓reduceIte, not_true_eq_false, not_false_eq_true, and_true, true_and, and_false, false_and, eq_T, eq_F, lt_T, lt_F, le_T, le_F, qn_T, qn_F, and_F, b01_T, b01_F, e_isIn, Int32.toInt_toInt64, am_i_toInt, am_l_toInt, Int.toNat_natCast, Int.reduceToNat, Int.reduceAdd, Int.reduceSub, Int.reduceMul, Int.reduceNeg, Nat.reduceAdd, Nat.reduceMul, Nat.add_zero, Nat.mul_zero, Nat.zero_add, am_zb0, am_zb1, h4, rC hx hc, xB, b01_f, sg_X11_later_22]
    refine Wp_e cl (Wp_r ⟨I, J, R, rfl, rfl, rfl, rfl, ?_⟩)
    have cm : am_E (d + 9) 226 0 [(0, .ref 64), (1, .int (am_i z)), (2, .int (am_i y)), (3, .int (am_i w))] [] (I, J, R, 138) = some (some (.int (am_i (-1))), (I, J, R, 138)) := by
      rw [sg_X12_later_0]
      by_cases hq2 : 0 ≤ z ∧ z < nb
      · have ma : ¬ (last ≠ 0 ∧ (((0 : Nat) : Int)) ≤ y ∧ y ≤ ((60 : Nat) : Int) ∧ (h : Int) + y ≤ 999) := by omega
        simp (disch := first | assumption | omega) only [rM hm, ly_csm, ly_cam, ly_cf, ly_kd, ly_ln, ↓Bool.cond_decide, cond_true, cond_false, ↓bI_p, ↓bV_p, ↓bL_p, bIJ_s, bVJ_s, bLJ_s, ↓am_let_s, Nat.blt, Nat.ble, Bool.and_true, Bool.true_and, Bool.and_self, Int.cast_ofNat_Int, am_i_add, am_i_sub, am_i_mul, am_ok_i, am_i_cl, n_lt, n_le, n_eq, n_lt0, n_le0, n_0lt, n_0le, n_eq0, ne_eq, ↓reduceIte, not_true_eq_false, not_false_eq_true, and_true, true_and, and_false, false_and, eq_T, eq_F, lt_T, lt_F, le_T, le_F, qn_T, qn_F, and_F, b01_T, b01_F, e_isIn, Int32.toInt_toInt64, am_i_toInt, am_l_toInt, Int.toNat_natCast, Int.reduceToNat, Int.reduceAdd, Int.reduceSub, Int.reduceMul, Int.reduceNeg, Nat.reduceAdd, Nat.reduceMul, Nat.add_zero, Nat.mul_zero, Nat.zero_add, am_zb0, am_zb1, mB, mA, b01_t hq2, b01_f ma, sg_X12_later_31]
      · simp (disch := first | assumption | omega) only [rM hm, ly_csm, ly_cam, ly_cf, ly_kd, ly_ln, ↓Bool.cond_decide, cond_true, cond_false, ↓bI_p, ↓bV_p, ↓bL_p, bIJ_s, bVJ_s, bLJ_s, ↓am_let_s, Nat.blt, Nat.ble, Bool.and_true, Bool.true_and, Bool.and_self, Int.cast_ofNat_Int, am_i_add, am_i_sub, am_i_mul, am_ok_i, am_i_cl, n_lt, n_le, n_eq, n_lt0, n_le0, n_0lt, n_0le, n_eq0, ne_eq, ↓reduceIte, not_true_eq_false, not_false_eq_true, and_true, true_and, and_false, false_and, eq_T, eq_F, lt_T, lt_F, le_T, le_F, qn_T, qn_F, and_F, b01_T, b01_F, e_isIn, Int32.toInt_toInt64, am_i_toInt, am_l_toInt, Int.toNat_natCast, Int.reduceToNat, Int.reduceAdd, Int.reduceSub, Int.reduceMul, Int.reduceNeg, Nat.reduceAdd, Nat.reduceMul, Nat.add_zero, Nat.mul_zero, Nat.zero_add, am_zb0, am_zb1, mB, b01_f, sg_X12_later_31]
    exact Wp_e cm (Wp_r ⟨I, J, R, rfl, rfl, hV0⟩)
end PLAT
