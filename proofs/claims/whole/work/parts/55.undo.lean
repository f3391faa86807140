/-! ===== undo ===== -/
section UNDO
variable {d : Nat} {J : tJ} {R : tR}
theorem x_tb {I : tI} {n x : Nat} (hx : st_Rx R) (hn : n + 1 ≤ 20) (h20 : x < 20) (e1 : I 33 1 = am_i x) (e2 : I 33 2 = am_i (n + 1 : Nat)) : Wp (fun r M => ∃ I', r = some (.int (am_i 1)) ∧ M = (I', J, R, 138) ∧ I' 33 1 = am_i ((x + 19) % 20 : Nat) ∧ I' 33 2 = am_i n ∧ (∀ i, i < 68 → I' 31 i = I 34 (68 * ((x + 19) % 20) + i)) ∧ ∀ q k, q ≠ 31 → q ≠ 33 → I' q k = I q k) (am_E (d + 1) 2 0 [(0, .ref 33), (1, .ref 31)] [] (I, J, R, 138)) := by
  have ex : ∀ y : Nat, am_i (y : Int) * am_i 68 = am_i ((68 * y : Nat) : Int) := fun y => by rw [am_i_mul]; congr 1; omega
  have en : am_i ((n + 1 : Nat) : Int) - am_i 1 = am_i (n : Int) := by rw [am_i_sub]; congr 1; omega
  have e19 : am_i 19 * am_i 68 = am_i ((68 * 19 : Nat) : Int) := by decide
  have fin : ∀ y : Nat, y = (x + 19) % 20 → Wp (fun r M => ∃ I', r = some (.int (am_i 1)) ∧ M = (I', J, R, 138) ∧ I' 33 1 = am_i ((x + 19) % 20 : Nat) ∧ I' 33 2 = am_i n ∧ (∀ i, i < 68 → I' 31 i = I 34 (68 * ((x + 19) % 20) + i)) ∧ ∀ q k, q ≠ 31 → q ≠ 33 → I' q k = I q k) (some (some (.int (am_i 1)), (am_cp (am_up (am_up I 33 2 (am_i n)) 33 1 (am_i y)) 34 (68 * y) 31 0 68, J, R, 138)) : am_R) := by
    intro y hy
    refine Wp_r ⟨_, rfl, rfl, ?_, ?_, fun i hi => ?_, fun q k a1 a2 => ?_⟩
    · rw [am_cp_ap, if_neg (by omega), am_up_e, hy]
    · rw [am_cp_ap, if_neg (by omega), am_up_o (by omega), am_up_e]
    · rw [am_cp_ap, if_pos rfl]
      unfold va_cpy
      rw [if_pos (by omega), am_up_o (by omega), am_up_o (by omega), hy, Nat.sub_zero]
    · rw [am_cp_ap, if_neg a1, am_up_o (by omega), am_up_o (by omega)]
  rw [sg_X0_takeBack_0]
  by_cases q : x = 0
  · have cy := (cyK (x := 19) (by omega)).2
    have e1' : I 33 1 = am_i 0 := by rw [e1, q]; rfl
    simp (disch := first | assumption | omega) only [rX hx, ly_csx, ly_cax, ly_cf, ly_kd, ly_ln, ↓Bool.cond_decide, cond_true, cond_false, ↓bI_p, ↓bV_p, ↓bL_p, bIJ_s, bVJ_s, bLJ_s, ↓am_let_s, Nat.blt, Nat.ble, Bool.and_true, Bool.true_and, Bool.and_self, Int.cast_ofNat_Int, e2, en, am_i_add, am_i_sub, am_i_mul, am_ok_i, am_i_cl, n_lt, n_le, n_eq, n_lt0, n_le0, n_0lt, n_0le, n_eq0, ne_eq, ↓reduceIte, not_true_eq_false, not_false_eq_true, and_true, true_and, and_false, false_and, eq_T, eq_F, lt_T, lt_F, le_T, le_F, qn_T, qn_F, and_F, b01_T, b01_F, e_isIn, Int32.toInt_toInt64, am_i_toInt, am_l_toInt, Int.toNat_natCast, Int.reduceToNat, Int.reduceAdd, Int.reduceSub, Int.reduceMul, Int.reduceNeg, Nat.reduceAdd, Nat.reduceMul, Nat.add_zero, Nat.mul_zero, Nat.zero_add, am_zb0, am_zb1, am_up_o, am_up_e, e1', e19, cy]
    exact fin 19 (by omega)
  · have cy := (cyK (x := x - 1) (by omega)).2
    have ey : am_i (x : Int) - am_i 1 = am_i ((x - 1 : Nat) : Int) := by rw [am_i_sub]; congr 1; omega
    have ey' : am_i ((x : Int) - 1) = am_i ((x - 1 : Nat) : Int) := by congr 1; omega
    have exx := ex (x - 1)
    rw [am_i_mul] at exx
    have exy : am_i (((x - 1 : Nat) : Int) * 68) = am_i ((68 * (x - 1) : Nat) : Int) := exx
    simp (disch := first | assumption | omega) only [rX hx, ly_csx, ly_cax, ly_cf, ly_kd, ly_ln, ↓Bool.cond_decide, cond_true, cond_false, ↓bI_p, ↓bV_p, ↓bL_p, bIJ_s, bVJ_s, bLJ_s, ↓am_let_s, Nat.blt, Nat.ble, Bool.and_true, Bool.true_and, Bool.and_self, Int.cast_ofNat_Int, e2, en, am_i_add, am_i_sub, am_i_mul, am_ok_i, am_i_cl, n_lt, n_le, n_eq, n_lt0, n_le0, n_0lt, n_0le, n_eq0, ne_eq, ↓reduceIte, not_true_eq_false, not_false_eq_true, and_true, true_and, and_false, false_and, eq_T, eq_F, lt_T, lt_F, le_T, le_F, qn_T, qn_F, and_F, b01_T, b01_F, e_isIn, Int32.toInt_toInt64, am_i_toInt, am_l_toInt, Int.toNat_natCast, Int.reduceToNat, Int.reduceAdd, Int.reduceSub, Int.reduceMul, Int.reduceNeg, Nat.reduceAdd, Nat.reduceMul, Nat.add_zero, Nat.mul_zero, Nat.zero_add, am_zb0, am_zb1, am_up_o, am_up_e, e1, ey', exy, cy]
    exact fin (x - 1) (by omega)
theorem m_u21 (hm : st_Rm R) {n x : Nat} (hn : n + 1 ≤ 20) (h20 : x < 20) : ∀ (m a : Nat) (I : tI), a + m = 188 → I 64 69 = am_i x → I 64 68 = am_i (n + 1 : Nat) → ∃ I', am_E (d + 1) 249 21 [(0, .ref 64), (1, .int (am_i a))] [] (I, J, R, 138) = some (some (.int (am_i 1)), (I', J, R, 138)) ∧ I' 64 69 = am_i ((x + 19) % 20 : Nat) ∧ I' 64 68 = am_i n ∧ (∀ q k, ¬ (q = 64 ∧ (k = 68 ∨ k = 69)) → ¬ (q = 103 ∧ a ≤ k ∧ k < 188) → I' q k = I q k) ∧ ∀ k, a ≤ k → k < 188 → I' 103 k = I 110 (188 * x + k)
  | 0, a, I, ha, h69, h68 => by
    have ey : am_i ((x : Int) + 20 - 1) - am_i ((x : Int) + 20 - 1) / am_i 20 * am_i 20 = am_i (((x + 19) % 20 : Nat) : Int) := by
      rw [i_div (by omega) (by omega) (by omega) (by omega), am_i_mul, am_i_sub, Int.tdiv_eq_ediv_of_nonneg (by omega)]
      congr 1
      omega
    have nz : (!am_i 20 == 0) = true := by decide
    have en : am_i ((n + 1 : Nat) : Int) - am_i 1 = am_i (n : Int) := by rw [am_i_sub]; congr 1; omega
    have ea : am_i (x : Int) + am_i 20 = am_i ((x : Int) + 20) := am_i_add _ _
    have ea2 : am_i ((x : Int) + 20) - am_i 1 = am_i ((x : Int) + 20 - 1) := am_i_sub _ _
    refine ⟨am_up (am_up I 64 69 (am_i (((x + 19) % 20 : Nat) : Int))) 64 68 (am_i n), ?_, ?_, am_up_e, fun q k h1 h2 => ?_, fun k h1 h2 => absurd h2 (by omega)⟩
    · rw [sg_X12_undo_21]
      simp (disch := first | assumption | omega) only [ly_cf, ↓Bool.cond_decide, cond_true, cond_false, ↓am_let_s, ↓bI_p, bIJ_s, ↓bV_p, bVJ_s, ↓bL_p, bLJ_s, ly_cf, Bool.and_self, Bool.and_true, nz, h69, ea, ea2, ey, am_up_o, h68, en, n_le]
      simp (disch := first | assumption | omega) only [am_i_add, am_i_sub, am_i_mul, am_ok_i, am_i_cl, n_lt, n_le, n_eq, n_lt0, n_le0, n_0lt, n_0le, n_eq0, ne_eq, ↓reduceIte, not_true_eq_false, not_false_eq_true, and_true, true_and, and_false, false_and, eq_T, eq_F, lt_T, lt_F, le_T, le_F, qn_T, qn_F, and_F, b01_T, b01_F, e_isIn, Int32.toInt_toInt64, am_i_toInt, am_l_toInt, Int.toNat_natCast, Int.reduceToNat, Int.reduceAdd, Int.reduceSub, Int.reduceMul, Int.reduceNeg, Nat.reduceAdd, Nat.reduceMul, Nat.add_zero, Nat.mul_zero, Nat.zero_add, am_zb0, am_zb1]
    · rw [am_up_o (by omega), am_up_e]
    · rw [am_up_o (by omega), am_up_o (by omega)]
  | m + 1, a, I, ha, h69, h68 => by
    have e1 : ((188 : Int) * (x : Int) + (a : Int)).toNat = 188 * x + a := by omega
    obtain ⟨I', g1, g2, g3, g4, g5⟩ := m_u21 hm hn h20 m (a + 1) (am_up I 103 a (I 110 (188 * x + a))) (by omega) (by rw [am_up_o (by omega)]; exact h69) (by rw [am_up_o (by omega)]; exact h68)
    refine ⟨I', ?_, g2, g3, fun q k h1 h2 => ?_, fun k h1 h2 => ?_⟩
    · rw [← g1, sg_X12_undo_21]
      simp (disch := first | assumption | omega) only [rM hm, ly_csm, ly_cam, ly_cf, ly_kd, ly_ln, ↓Bool.cond_decide, cond_true, cond_false, ↓bI_p, ↓bV_p, ↓bL_p, bIJ_s, bVJ_s, bLJ_s, ↓am_let_s, Nat.blt, Nat.ble, Bool.and_true, Bool.true_and, Bool.and_self, Int.cast_ofNat_Int, am_i_add, am_i_sub, am_i_mul, am_ok_i, am_i_cl, n_lt, n_le, n_eq, n_lt0, n_le0, n_0lt, n_0le, n_eq0, ne_eq, ↓reduceIte, not_true_eq_false, not_false_eq_true, and_true, true_and, and_false, false_and, eq_T, eq_F, lt_T, lt_F, le_T, le_F, qn_T, qn_F, and_F, b01_T, b01_F, e_isIn, Int32.toInt_toInt64, am_i_toInt, am_l_toInt, Int.toNat_natCast, Int.reduceToNat, Int.reduceAdd, Int.reduceSub, Int.reduceMul, Int.reduceNeg, Nat.reduceAdd, Nat.reduceMul, Nat.add_zero, Nat.mul_zero, Nat.zero_add, am_zb0, am_zb1, h69, e1, am_i_s]
    · rw [g4 q k h1 (by omega), am_up_o (by omega)]
    · by_cases q : k = a
      · subst q
        rw [g4 _ _ (by omega) (by omega), am_up_e]
      · rw [g5 k (by omega) h2, am_up_o (by omega)]
end UNDO
section PUND
variable {L : Nat} {xs : Nat → Int32}
theorem p_undo (d : Nat) : pr_I (vV restW L xs) (d + 3) 129 249 [] := by
  refine pW_I ?_
  intro I J R hV
  have hV0 := hV
  obtain ⟨⟨h1, h2, hx, hm, hmu⟩, ht, hr, hf, hp, hs, hd, hw⟩ := hV
  obtain ⟨c, last, nb, nr, nw, wd, sq, K, nt, wf, fm, h4, hc, hB, hN, hF, ⟨h, s, ⟨hh, e66, g0, hbt⟩, ⟨ek, gk, hkp⟩, hKh⟩, hA, hX⟩ := hw
  obtain ⟨b1, b2, b3, b4, b5, b6, b7, b8, i0, m0, i1, m1, i2, m2, i3, m3, i4, m4, i5, m5, mS, mT, hnt, hky, hwf⟩ := hB
  obtain ⟨an, ax, Kf, hA1, hA2, an1, an2, ax1, ax2, hK0, hst⟩ := hA
  have hnt6 : ∀ b, b < nb → nt b ≤ 6 := fun b hb => (hnt b hb).1
  have hBB : restB I c last nb nr nw wd sq nt wf := ⟨b1, b2, b3, b4, b5, b6, b7, b8, i0, m0, i1, m1, i2, m2, i3, m3, i4, m4, i5, m5, mS, mT, hnt, hky, hwf⟩
  cases an with
  | zero =>
    refine ⟨am_i 0, ?_⟩
    have an1' : I 33 2 = am_i 0 := an1
    have xF : ∀ d, am_E (d + 1) 155 0 [(0, .ref 3), (1, .int (am_i 4))] [] (I, J, R, 138) = some (some (.int (am_i 0)), (am_up I 63 4 (I 63 4 + am_i 1), J, R, 138)) := fun d => e_refuse d 4 (by decide) I J R hx
    have g : ∀ q k, q ≠ 63 → am_up I 63 4 (I 63 4 + am_i 1) q k = I q k := fun q k e => am_up_o (by omega)
    have cl : am_E (d + 3) 129 0 [(0, .ref 3)] [] (I, J, R, 138) = some (some (.int (am_i 0)), (am_up I 63 4 (I 63 4 + am_i 1), J, R, 138)) := by
      rw [sg_X11_undo_0]
      simp (disch := first | assumption | omega) only [rX hx, ly_csx, ly_cax, ly_cf, ly_kd, ly_ln, ↓Bool.cond_decide, cond_true, cond_false, ↓bI_p, ↓bV_p, ↓bL_p, bIJ_s, bVJ_s, bLJ_s, ↓am_let_s, Nat.blt, Nat.ble, Bool.and_true, Bool.true_and, Bool.and_self, Int.cast_ofNat_Int, am_i_add, am_i_sub, am_i_mul, am_ok_i, am_i_cl, n_lt, n_le, n_eq, n_lt0, n_le0, n_0lt, n_0le, n_eq0, ne_eq, ↓reduceIte, not_true_eq_false, not_false_eq_true, and_true, true_and, and_false, false_and, eq_T, eq_F, lt_T, lt_F, le_T, le_F, qn_T, qn_F, and_F, b01_T, b01_F, e_isIn, Int32.toInt_toInt64, am_i_toInt, am_l_toInt, Int.toNat_natCast, Int.reduceToNat, Int.reduceAdd, Int.reduceSub, Int.reduceMul, Int.reduceNeg, Nat.reduceAdd, Nat.reduceMul, Nat.add_zero, Nat.mul_zero, Nat.zero_add, am_zb0, am_zb1, sg_X0_takeBack_0, an1', xF]
    refine Wp_e cl (Wp_r ⟨_, J, R, rfl, rfl, funext (fun k => g 1 k (by omega)), rfl, ?_⟩)
    have an2' : am_up I 63 4 (I 63 4 + am_i 1) 64 68 = am_i 0 := by rw [g _ _ (by omega)]; exact an2
    have cm : am_E (d + 3) 249 0 [(0, .ref 64)] [] (am_up I 63 4 (I 63 4 + am_i 1), J, R, 138) = some (some (.int (am_i 0)), (am_up (am_up I 63 4 (I 63 4 + am_i 1)) 66 4 (I 66 4 + am_i 1), J, R, 138)) := by
      rw [sg_X12_undo_0]
      simp (disch := first | assumption | omega) only [rM hm, ly_csm, ly_cam, ly_cf, ly_kd, ly_ln, ↓Bool.cond_decide, cond_true, cond_false, ↓bI_p, ↓bV_p, ↓bL_p, bIJ_s, bVJ_s, bLJ_s, ↓am_let_s, Nat.blt, Nat.ble, Bool.and_true, Bool.true_and, Bool.and_self, Int.cast_ofNat_Int, am_i_add, am_i_sub, am_i_mul, am_ok_i, am_i_cl, n_lt, n_le, n_eq, n_lt0, n_le0, n_0lt, n_0le, n_eq0, ne_eq, ↓reduceIte, not_true_eq_false, not_false_eq_true, and_true, true_and, and_false, false_and, eq_T, eq_F, lt_T, lt_F, le_T, le_F, qn_T, qn_F, and_F, b01_T, b01_F, e_isIn, Int32.toInt_toInt64, am_i_toInt, am_l_toInt, Int.toNat_natCast, Int.reduceToNat, Int.reduceAdd, Int.reduceSub, Int.reduceMul, Int.reduceNeg, Nat.reduceAdd, Nat.reduceMul, Nat.add_zero, Nat.mul_zero, Nat.zero_add, am_zb0, am_zb1, an2', am_up_o]
    exact Wp_e cm (Wp_r ⟨_, J, R, rfl, rfl, vV_ref hV0 4⟩)
  | succ n =>
    refine ⟨am_i 1, ?_⟩
    rw [sg_X11_undo_0]
    simp (disch := first | assumption | omega) only [rX hx, ly_csx, ly_cax, ly_cf, ly_kd, ly_ln, ↓Bool.cond_decide, cond_true, cond_false, ↓bI_p, ↓bV_p, ↓bL_p, bIJ_s, bVJ_s, bLJ_s, ↓am_let_s, Nat.blt, Nat.ble, Bool.and_true, Bool.true_and, Bool.and_self, Int.cast_ofNat_Int, am_i_add, am_i_sub, am_i_mul, am_ok_i, am_i_cl, n_lt, n_le, n_eq, n_lt0, n_le0, n_0lt, n_0le, n_eq0, ne_eq, ↓reduceIte, not_true_eq_false, not_false_eq_true, and_true, true_and, and_false, false_and, eq_T, eq_F, lt_T, lt_F, le_T, le_F, qn_T, qn_F, and_F, b01_T, b01_F, e_isIn, Int32.toInt_toInt64, am_i_toInt, am_l_toInt, Int.toNat_natCast, Int.reduceToNat, Int.reduceAdd, Int.reduceSub, Int.reduceMul, Int.reduceNeg, Nat.reduceAdd, Nat.reduceMul, Nat.add_zero, Nat.mul_zero, Nat.zero_add, am_zb0, am_zb1]
    refine Wp_I (x_tb (n := n) (x := ax) hx hA1 hA2 ax1 an1) ?_
    rintro _ _ ⟨I1, rfl, rfl, k1, k2, k3, k4⟩
    refine ⟨_, rfl, ?_⟩
    simp (disch := first | assumption | omega) only [am_i_add, am_i_sub, am_i_mul, am_ok_i, am_i_cl, n_lt, n_le, n_eq, n_lt0, n_le0, n_0lt, n_0le, n_eq0, ne_eq, ↓reduceIte, not_true_eq_false, not_false_eq_true, and_true, true_and, and_false, false_and, eq_T, eq_F, lt_T, lt_F, le_T, le_F, qn_T, qn_F, and_F, b01_T, b01_F, e_isIn, Int32.toInt_toInt64, am_i_toInt, am_l_toInt, Int.toNat_natCast, Int.reduceToNat, Int.reduceAdd, Int.reduceSub, Int.reduceMul, Int.reduceNeg, Nat.reduceAdd, Nat.reduceMul, Nat.add_zero, Nat.mul_zero, Nat.zero_add, am_zb0, am_zb1, ↓Bool.cond_decide, cond_true, cond_false, ↓am_let_s, ↓bI_p, bIJ_s, ↓bV_p, bVJ_s, ↓bL_p, bLJ_s, ly_cf, Bool.and_self, Bool.and_true, sg_X11_undo_22]
    refine Wp_r ⟨I1, J, R, rfl, rfl, funext (fun k => k4 1 k (by omega) (by omega)), rfl, ?_⟩
    obtain ⟨I2, g1, g2, g3, g4, g5⟩ := m_u21 (d := d + 2) (J := J) (R := R) hm hA1 hA2 188 0 I1 (by omega) (by rw [k4 _ _ (by omega) (by omega)]; exact ax2) (by rw [k4 _ _ (by omega) (by omega)]; exact an2)
    have g1' : am_E (d + 3) 249 21 [(0, .ref 64), (1, .int (am_i 0))] [] (I1, J, R, 138) = some (some (.int (am_i 1)), (I2, J, R, 138)) := g1
    have e68 : I1 64 68 = am_i (n + 1 : Nat) := by rw [k4 _ _ (by omega) (by omega)]; exact an2
    have cm : am_E (d + 3) 249 0 [(0, .ref 64)] [] (I1, J, R, 138) = some (some (.int (am_i 1)), (I2, J, R, 138)) := by
      rw [sg_X12_undo_0]
      simp (disch := first | assumption | omega) only [rM hm, ly_csm, ly_cam, ly_cf, ly_kd, ly_ln, ↓Bool.cond_decide, cond_true, cond_false, ↓bI_p, ↓bV_p, ↓bL_p, bIJ_s, bVJ_s, bLJ_s, ↓am_let_s, Nat.blt, Nat.ble, Bool.and_true, Bool.true_and, Bool.and_self, Int.cast_ofNat_Int, am_i_add, am_i_sub, am_i_mul, am_ok_i, am_i_cl, n_lt, n_le, n_eq, n_lt0, n_le0, n_0lt, n_0le, n_eq0, ne_eq, ↓reduceIte, not_true_eq_false, not_false_eq_true, and_true, true_and, and_false, false_and, eq_T, eq_F, lt_T, lt_F, le_T, le_F, qn_T, qn_F, and_F, b01_T, b01_F, e_isIn, Int32.toInt_toInt64, am_i_toInt, am_l_toInt, Int.toNat_natCast, Int.reduceToNat, Int.reduceAdd, Int.reduceSub, Int.reduceMul, Int.reduceNeg, Nat.reduceAdd, Nat.reduceMul, Nat.add_zero, Nat.mul_zero, Nat.zero_add, am_zb0, am_zb1, e68]
      exact g1'
    have z : ∀ q k, ¬ (q = 64 ∧ (k = 68 ∨ k = 69)) → q ≠ 103 → q ≠ 31 → q ≠ 33 → I2 q k = I q k := fun q k e1 e2 e3 e4 => by rw [g4 q k e1 (by omega), k4 q k e3 e4]
    have hI : ∀ q k, ¬ sC q k → ¬ kC q k → I2 q k = I q k := fun q k e1 e2 => by
      unfold kC at e2
      exact z q k (by omega) (by omega) (by omega) (by omega)
    have e32 : I2 32 = I 32 := funext fun k => z 32 k (by omega) (by omega) (by omega) (by omega)
    have e34 : I2 34 = I 34 := funext fun k => z 34 k (by omega) (by omega) (by omega) (by omega)
    have e110 : I2 110 = I 110 := funext fun k => z 110 k (by omega) (by omega) (by omega) (by omega)
    obtain ⟨q1, q2, q3⟩ := hst 0 (by omega)
    refine Wp_e cm (Wp_r ⟨I2, J, R, rfl, rfl, vV_k hV0 hI (fun _ _ _ _ => rfl) (rR_r hmu) (restW_K (K := Kf 1) h4 hc hBB hN hF hX hI (fun _ _ _ _ => rfl) (rR_r hmu) ?_ ?_)⟩)
    · rw [e32]
      refine stR_c b3 hnt6 (fun i hi => ?_) (fun i hi => ?_) q3
      · rw [g4 _ _ (by omega) (by omega), k3 i hi]; rfl
      · rw [g5 i (by omega) hi, k4 _ _ (by omega) (by omega)]
        show _ = I 110 (188 * ((ax + 20 - 0) % 20) + i)
        rw [show (ax + 20 - 0) % 20 = ax by omega]
    · refine ⟨n, (ax + 19) % 20, fun j => Kf (j + 1), by omega, Nat.mod_lt _ (by decide), ?_, g3, ?_, g2, rfl, fun j hj => ?_⟩
      · rw [g4 _ _ (by omega) (by omega)]; exact k2
      · rw [g4 _ _ (by omega) (by omega)]; exact k1
      · obtain ⟨p1, p2, p3⟩ := hst (j + 1) (by omega)
        refine ⟨p1, p2, ?_⟩
        rw [e32, e34, e110, show ((ax + 19) % 20 + 19 - j) % 20 = (ax + 19 - (j + 1)) % 20 by omega, show ((ax + 19) % 20 + 20 - j) % 20 = (ax + 20 - (j + 1)) % 20 by omega]
        exact p3
end PUND
