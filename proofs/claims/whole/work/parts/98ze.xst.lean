/-! ===== any statement: the class ===== -/
section XST
variable {d : Nat} {J : tJ} {R : tR} {T : Nat → Nat} {n p i c : Nat} {I I' : tI} {X : sSt} {r : Nat × Nat}
theorem x_stmt (hx : st_Rx R) (h : xB T n c p i X I R) (n9 : ¬ tW T n p = 9) (n10 : ¬ tW T n p = 10) (n11 : ¬ tW T n p = 11) : ∃ I', am_E (d + 78) 92 0 [(0, .ref 30)] [] (I, J, R, 138) = some (none, (I', J, R, 138)) ∧ xQ T n c (sdSt T n X p) I' ∧ xF c I I' := by
  have h0 := h
  obtain ⟨n16, hT, hS, h11, hX, hO, ⟨ac, hac, h83⟩, h2, hc⟩ := h
  have hp : p ≤ n := hO.1.2.2.2.2.2.2.2.2
  have h82 := hX.2.2.2.2.2.2
  have sz := hO.1.2.2.2.2.2.2.2.1
  have r0 : xR T n (0, p) I := ⟨fun _ => ⟨hS, hp, h11⟩, fun e => absurd rfl e⟩
  have tb := tW_b (T := T) (n := n) (p := p)
  have wh := fun d => e_wordHere (d := d) (J := J) (R := R) (vw_p hT hS)
  unfold sdSt
  by_cases w1 : tW T n p = 1
  · rw [if_pos w1]
    obtain ⟨I1, a1, a2, a3⟩ := x_boat (d := d + 71) (J := J) hx h0 w1
    have a1' : am_E (d + 77) 94 0 [(0, .ref 30)] [] (I, J, R, 138) = _ := a1
    refine ⟨I1, ?_, a2, a3⟩
    rw [sg_X10_statement_0]
    simp (disch := first | assumption | omega) only [rX hx, ly_csx, ly_cax, ly_cf, ly_kd, ly_ln, ↓Bool.cond_decide, cond_true, cond_false, ↓bI_p, ↓bV_p, ↓bL_p, bIJ_s, bVJ_s, bLJ_s, ↓am_let_s, Nat.blt, Nat.ble, Bool.and_true, Bool.true_and, Bool.and_self, Int.cast_ofNat_Int, am_i_add, am_i_sub, am_i_mul, am_ok_i, am_i_cl, n_lt, n_le, n_eq, n_lt0, n_le0, n_0lt, n_0le, n_eq0, ne_eq, ↓reduceIte, not_true_eq_false, not_false_eq_true, and_true, true_and, and_false, false_and, eq_T, eq_F, lt_T, lt_F, le_T, le_F, qn_T, qn_F, and_F, b01_T, b01_F, e_isIn, Int32.toInt_toInt64, am_i_toInt, am_l_toInt, Int.toNat_natCast, Int.reduceToNat, Int.reduceAdd, Int.reduceSub, Int.reduceMul, Int.reduceNeg, Nat.reduceAdd, Nat.reduceMul, Nat.add_zero, Nat.mul_zero, Nat.zero_add, am_zb0, am_zb1, wh, a1', sg_X10_statement_161]
  rw [if_neg w1]
  by_cases w5 : tW T n p = 5
  · rw [if_pos w5]
    obtain ⟨I1, a1, a2, a3⟩ := x_score (d := d + 71) (J := J) hx h0 w5
    have a1' : am_E (d + 77) 95 0 [(0, .ref 30)] [] (I, J, R, 138) = _ := a1
    refine ⟨I1, ?_, a2, a3⟩
    rw [sg_X10_statement_0]
    simp (disch := first | assumption | omega) only [rX hx, ly_csx, ly_cax, ly_cf, ly_kd, ly_ln, ↓Bool.cond_decide, cond_true, cond_false, ↓bI_p, ↓bV_p, ↓bL_p, bIJ_s, bVJ_s, bLJ_s, ↓am_let_s, Nat.blt, Nat.ble, Bool.and_true, Bool.true_and, Bool.and_self, Int.cast_ofNat_Int, am_i_add, am_i_sub, am_i_mul, am_ok_i, am_i_cl, n_lt, n_le, n_eq, n_lt0, n_le0, n_0lt, n_0le, n_eq0, ne_eq, ↓reduceIte, not_true_eq_false, not_false_eq_true, and_true, true_and, and_false, false_and, eq_T, eq_F, lt_T, lt_F, le_T, le_F, qn_T, qn_F, and_F, b01_T, b01_F, e_isIn, Int32.toInt_toInt64, am_i_toInt, am_l_toInt, Int.toNat_natCast, Int.reduceToNat, Int.reduceAdd, Int.reduceSub, Int.reduceMul, Int.reduceNeg, Nat.reduceAdd, Nat.reduceMul, Nat.add_zero, Nat.mul_zero, Nat.zero_add, am_zb0, am_zb1, wh, a1', sg_X10_statement_161]
  rw [if_neg w5]
  by_cases w6 : tW T n p = 6
  · rw [if_pos w6]
    obtain ⟨I1, a1, a2, a3⟩ := x_wolf (d := d + 71) (J := J) hx h0 w6
    have a1' : am_E (d + 77) 96 0 [(0, .ref 30)] [] (I, J, R, 138) = _ := a1
    refine ⟨I1, ?_, a2, a3⟩
    rw [sg_X10_statement_0]
    simp (disch := first | assumption | omega) only [rX hx, ly_csx, ly_cax, ly_cf, ly_kd, ly_ln, ↓Bool.cond_decide, cond_true, cond_false, ↓bI_p, ↓bV_p, ↓bL_p, bIJ_s, bVJ_s, bLJ_s, ↓am_let_s, Nat.blt, Nat.ble, Bool.and_true, Bool.true_and, Bool.and_self, Int.cast_ofNat_Int, am_i_add, am_i_sub, am_i_mul, am_ok_i, am_i_cl, n_lt, n_le, n_eq, n_lt0, n_le0, n_0lt, n_0le, n_eq0, ne_eq, ↓reduceIte, not_true_eq_false, not_false_eq_true, and_true, true_and, and_false, false_and, eq_T, eq_F, lt_T, lt_F, le_T, le_F, qn_T, qn_F, and_F, b01_T, b01_F, e_isIn, Int32.toInt_toInt64, am_i_toInt, am_l_toInt, Int.toNat_natCast, Int.reduceToNat, Int.reduceAdd, Int.reduceSub, Int.reduceMul, Int.reduceNeg, Nat.reduceAdd, Nat.reduceMul, Nat.add_zero, Nat.mul_zero, Nat.zero_add, am_zb0, am_zb1, wh, a1', sg_X10_statement_161]
  rw [if_neg w6]
  by_cases w7 : tW T n p = 7
  · rw [if_pos w7]
    obtain ⟨I1, a1, a2, a3⟩ := x_rider (d := d + 71) (J := J) hx h0 w7
    have a1' : am_E (d + 77) 97 0 [(0, .ref 30)] [] (I, J, R, 138) = _ := a1
    refine ⟨I1, ?_, a2, a3⟩
    rw [sg_X10_statement_0]
    simp (disch := first | assumption | omega) only [rX hx, ly_csx, ly_cax, ly_cf, ly_kd, ly_ln, ↓Bool.cond_decide, cond_true, cond_false, ↓bI_p, ↓bV_p, ↓bL_p, bIJ_s, bVJ_s, bLJ_s, ↓am_let_s, Nat.blt, Nat.ble, Bool.and_true, Bool.true_and, Bool.and_self, Int.cast_ofNat_Int, am_i_add, am_i_sub, am_i_mul, am_ok_i, am_i_cl, n_lt, n_le, n_eq, n_lt0, n_le0, n_0lt, n_0le, n_eq0, ne_eq, ↓reduceIte, not_true_eq_false, not_false_eq_true, and_true, true_and, and_false, false_and, eq_T, eq_F, lt_T, lt_F, le_T, le_F, qn_T, qn_F, and_F, b01_T, b01_F, e_isIn, Int32.toInt_toInt64, am_i_toInt, am_l_toInt, Int.toNat_natCast, Int.reduceToNat, Int.reduceAdd, Int.reduceSub, Int.reduceMul, Int.reduceNeg, Nat.reduceAdd, Nat.reduceMul, Nat.add_zero, Nat.mul_zero, Nat.zero_add, am_zb0, am_zb1, wh, a1', sg_X10_statement_161]
  rw [if_neg w7]
  rw [if_neg n9, if_neg n10, if_neg n11]
  by_cases w12 : tW T n p = 12
  · rw [if_pos w12]
    unfold sdWind
    obtain ⟨I1, a1, a2, a3⟩ := x_rX (d := d + 73) (J := J) hx hT r0 (fun _ => tW_4 (T := T) (n := n) (p := p) (by omega))
    rw [rS_0 rfl] at a2
    have a1' : am_E (d + 77) 73 0 [(0, .ref 5)] [] (I, J, R, 138) = _ := a1
    have T1 : txX T n I1 R := txX_c hT (fun q k e => a3 q k (by omega))
    obtain ⟨v, I2, b1, b2, b3, b4, b5⟩ := x_rN (d := d + 72) (J := J) hx T1 a2 (lo := 0) (hi := 9) (by omega) (by omega)
    rw [rS_0 rfl] at b2 b3 b4
    obtain ⟨r2, hr2⟩ : ∃ r2, r2 = aN T n (tE T n p) 0 9 := ⟨_, rfl⟩
    have hr2' : aN T n ((0, tE T n p) : Nat × Nat).2 0 9 = r2 := hr2.symm
    rw [hr2'] at b2 b3 b4
    rw [← hr2]
    have b1' : am_E (d + 77) 87 0 [(0, .ref 5), (1, .int (am_i 0)), (2, .int (am_i 9))] [] (I1, J, R, 138) = _ := b1
    have o9 : ∀ q j, q ≠ 5 → ¬ (q = c ∧ j = 4) → am_up I2 c 4 (am_i v) q j = I q j := fun q j e1 e2 => by rw [am_up_o e2, b5 q j e1, a3 q j e1]
    have R9 : xR T n r2 (am_up I2 c 4 (am_i v)) := xR_c b4 (fun j => am_up_o (by omega))
    refine ⟨am_up I2 c 4 (am_i v), ?_, ⟨?_, fun e => ?_, ⟨X.sz, by omega, by rw [o9 _ _ (by omega) (by omega)]; exact h82⟩, ac, hac, by rw [o9 _ _ (by omega) (by omega)]; exact h83⟩, fun q j e => o9 q j (by omega) (by omega)⟩
    · rw [sg_X10_statement_0]
      simp (disch := first | assumption | omega) only [rX hx, ly_csx, ly_cax, ly_cf, ly_kd, ly_ln, ↓Bool.cond_decide, cond_true, cond_false, ↓bI_p, ↓bV_p, ↓bL_p, bIJ_s, bVJ_s, bLJ_s, ↓am_let_s, Nat.blt, Nat.ble, Bool.and_true, Bool.true_and, Bool.and_self, Int.cast_ofNat_Int, am_i_add, am_i_sub, am_i_mul, am_ok_i, am_i_cl, n_lt, n_le, n_eq, n_lt0, n_le0, n_0lt, n_0le, n_eq0, ne_eq, ↓reduceIte, not_true_eq_false, not_false_eq_true, and_true, true_and, and_false, false_and, eq_T, eq_F, lt_T, lt_F, le_T, le_F, qn_T, qn_F, and_F, b01_T, b01_F, e_isIn, Int32.toInt_toInt64, am_i_toInt, am_l_toInt, Int.toNat_natCast, Int.reduceToNat, Int.reduceAdd, Int.reduceSub, Int.reduceMul, Int.reduceNeg, Nat.reduceAdd, Nat.reduceMul, Nat.add_zero, Nat.mul_zero, Nat.zero_add, am_zb0, am_zb1, h2, rC hx hc, wh, a1', b1', sg_X10_statement_161]
    · by_cases q : r2.1 = 0
      · rw [sI_0 q]
        have : ((0 : Nat), r2.2) = r2 := Prod.ext q.symm rfl
        show xR T n (0, r2.2) _
        rw [this]; exact R9
      · rw [sI_n q]; exact R9
    · by_cases q : r2.1 = 0
      · rw [sI_0 q]
        exact xCh_wind hX hc (by rw [am_up_e, b2 q]) o9
      · rw [sI_n q] at e; exact absurd e q
  rw [if_neg w12]
  by_cases w13 : tW T n p = 13
  · rw [if_pos w13]
    unfold sdSqu
    obtain ⟨I1, a1, a2, a3⟩ := x_rX (d := d + 73) (J := J) hx hT r0 (fun _ => tW_4 (T := T) (n := n) (p := p) (by omega))
    rw [rS_0 rfl] at a2
    have a1' : am_E (d + 77) 73 0 [(0, .ref 5)] [] (I, J, R, 138) = _ := a1
    have T1 : txX T n I1 R := txX_c hT (fun q k e => a3 q k (by omega))
    obtain ⟨v, I2, b1, b2, b3, b4, b5⟩ := x_rN (d := d + 72) (J := J) hx T1 a2 (lo := 0) (hi := 100) (by omega) (by omega)
    rw [rS_0 rfl] at b2 b3 b4
    obtain ⟨r2, hr2⟩ : ∃ r2, r2 = aN T n (tE T n p) 0 100 := ⟨_, rfl⟩
    have hr2' : aN T n ((0, tE T n p) : Nat × Nat).2 0 100 = r2 := hr2.symm
    rw [hr2'] at b2 b3 b4
    rw [← hr2]
    have b1' : am_E (d + 77) 87 0 [(0, .ref 5), (1, .int (am_i 0)), (2, .int (am_i 100))] [] (I1, J, R, 138) = _ := b1
    have o9 : ∀ q j, q ≠ 5 → ¬ (q = c ∧ j = 5) → am_up I2 c 5 (am_i v) q j = I q j := fun q j e1 e2 => by rw [am_up_o e2, b5 q j e1, a3 q j e1]
    have R9 : xR T n r2 (am_up I2 c 5 (am_i v)) := xR_c b4 (fun j => am_up_o (by omega))
    refine ⟨am_up I2 c 5 (am_i v), ?_, ⟨?_, fun e => ?_, ⟨X.sz, by omega, by rw [o9 _ _ (by omega) (by omega)]; exact h82⟩, ac, hac, by rw [o9 _ _ (by omega) (by omega)]; exact h83⟩, fun q j e => o9 q j (by omega) (by omega)⟩
    · rw [sg_X10_statement_0]
      simp (disch := first | assumption | omega) only [rX hx, ly_csx, ly_cax, ly_cf, ly_kd, ly_ln, ↓Bool.cond_decide, cond_true, cond_false, ↓bI_p, ↓bV_p, ↓bL_p, bIJ_s, bVJ_s, bLJ_s, ↓am_let_s, Nat.blt, Nat.ble, Bool.and_true, Bool.true_and, Bool.and_self, Int.cast_ofNat_Int, am_i_add, am_i_sub, am_i_mul, am_ok_i, am_i_cl, n_lt, n_le, n_eq, n_lt0, n_le0, n_0lt, n_0le, n_eq0, ne_eq, ↓reduceIte, not_true_eq_false, not_false_eq_true, and_true, true_and, and_false, false_and, eq_T, eq_F, lt_T, lt_F, le_T, le_F, qn_T, qn_F, and_F, b01_T, b01_F, e_isIn, Int32.toInt_toInt64, am_i_toInt, am_l_toInt, Int.toNat_natCast, Int.reduceToNat, Int.reduceAdd, Int.reduceSub, Int.reduceMul, Int.reduceNeg, Nat.reduceAdd, Nat.reduceMul, Nat.add_zero, Nat.mul_zero, Nat.zero_add, am_zb0, am_zb1, h2, rC hx hc, wh, a1', b1', sg_X10_statement_161]
    · by_cases q : r2.1 = 0
      · rw [sI_0 q]
        have : ((0 : Nat), r2.2) = r2 := Prod.ext q.symm rfl
        show xR T n (0, r2.2) _
        rw [this]; exact R9
      · rw [sI_n q]; exact R9
    · by_cases q : r2.1 = 0
      · rw [sI_0 q]
        exact xCh_squ hX hc (by rw [am_up_e, b2 q]) o9
      · rw [sI_n q] at e; exact absurd e q
  rw [if_neg w13]
  have fl := fun d => x_flH (d := d) (J := J) (R := R) hS.2.2.2.2.1
  have e4 : I 5 4 = am_i (tAt T n p) := hS.2.2.1
  rw [e4] at fl
  have x5 : xFt 1 (tAt T n p) (am_up (am_up (am_up I 5 10 (am_i 1)) 5 11 (am_i (tAt T n p))) 5 5 (am_i 4)) := fl_x (e := 1)
  have o9 : ∀ q j, q ≠ 5 → am_up (am_up (am_up I 5 10 (am_i 1)) 5 11 (am_i (tAt T n p))) 5 5 (am_i 4) q j = I q j := fun q j e => fl_f e
  refine ⟨_, ?_, ⟨⟨fun e => absurd e (by show ¬ ((1 : Nat) = 0); decide), fun _ => ⟨x5, by show (1 : Nat) ≤ 9; decide⟩⟩, fun e => absurd e (by show ¬ ((1 : Nat) = 0); decide), ⟨X.sz, by omega, by rw [o9 _ _ (by omega)]; exact h82⟩, ac, hac, by rw [o9 _ _ (by omega)]; exact h83⟩, fun q j e => o9 q j (by omega)⟩
  rw [sg_X10_statement_0]
  by_cases w2 : tW T n p = 2
  · simp (disch := first | assumption | omega) only [rX hx, ly_csx, ly_cax, ly_cf, ly_kd, ly_ln, ↓Bool.cond_decide, cond_true, cond_false, ↓bI_p, ↓bV_p, ↓bL_p, bIJ_s, bVJ_s, bLJ_s, ↓am_let_s, Nat.blt, Nat.ble, Bool.and_true, Bool.true_and, Bool.and_self, Int.cast_ofNat_Int, am_i_add, am_i_sub, am_i_mul, am_ok_i, am_i_cl, n_lt, n_le, n_eq, n_lt0, n_le0, n_0lt, n_0le, n_eq0, ne_eq, ↓reduceIte, not_true_eq_false, not_false_eq_true, and_true, true_and, and_false, false_and, eq_T, eq_F, lt_T, lt_F, le_T, le_F, qn_T, qn_F, and_F, b01_T, b01_F, e_isIn, Int32.toInt_toInt64, am_i_toInt, am_l_toInt, Int.toNat_natCast, Int.reduceToNat, Int.reduceAdd, Int.reduceSub, Int.reduceMul, Int.reduceNeg, Nat.reduceAdd, Nat.reduceMul, Nat.add_zero, Nat.mul_zero, Nat.zero_add, am_zb0, am_zb1, wh, fl, sg_X10_statement_161]
  · by_cases w3 : tW T n p = 3
    · simp (disch := first | assumption | omega) only [rX hx, ly_csx, ly_cax, ly_cf, ly_kd, ly_ln, ↓Bool.cond_decide, cond_true, cond_false, ↓bI_p, ↓bV_p, ↓bL_p, bIJ_s, bVJ_s, bLJ_s, ↓am_let_s, Nat.blt, Nat.ble, Bool.and_true, Bool.true_and, Bool.and_self, Int.cast_ofNat_Int, am_i_add, am_i_sub, am_i_mul, am_ok_i, am_i_cl, n_lt, n_le, n_eq, n_lt0, n_le0, n_0lt, n_0le, n_eq0, ne_eq, ↓reduceIte, not_true_eq_false, not_false_eq_true, and_true, true_and, and_false, false_and, eq_T, eq_F, lt_T, lt_F, le_T, le_F, qn_T, qn_F, and_F, b01_T, b01_F, e_isIn, Int32.toInt_toInt64, am_i_toInt, am_l_toInt, Int.toNat_natCast, Int.reduceToNat, Int.reduceAdd, Int.reduceSub, Int.reduceMul, Int.reduceNeg, Nat.reduceAdd, Nat.reduceMul, Nat.add_zero, Nat.mul_zero, Nat.zero_add, am_zb0, am_zb1, wh, fl, sg_X10_statement_161]
    · by_cases w4 : tW T n p = 4
      · simp (disch := first | assumption | omega) only [rX hx, ly_csx, ly_cax, ly_cf, ly_kd, ly_ln, ↓Bool.cond_decide, cond_true, cond_false, ↓bI_p, ↓bV_p, ↓bL_p, bIJ_s, bVJ_s, bLJ_s, ↓am_let_s, Nat.blt, Nat.ble, Bool.and_true, Bool.true_and, Bool.and_self, Int.cast_ofNat_Int, am_i_add, am_i_sub, am_i_mul, am_ok_i, am_i_cl, n_lt, n_le, n_eq, n_lt0, n_le0, n_0lt, n_0le, n_eq0, ne_eq, ↓reduceIte, not_true_eq_false, not_false_eq_true, and_true, true_and, and_false, false_and, eq_T, eq_F, lt_T, lt_F, le_T, le_F, qn_T, qn_F, and_F, b01_T, b01_F, e_isIn, Int32.toInt_toInt64, am_i_toInt, am_l_toInt, Int.toNat_natCast, Int.reduceToNat, Int.reduceAdd, Int.reduceSub, Int.reduceMul, Int.reduceNeg, Nat.reduceAdd, Nat.reduceMul, Nat.add_zero, Nat.mul_zero, Nat.zero_add, am_zb0, am_zb1, wh, fl, sg_X10_statement_161]
      · by_cases w8 : tW T n p = 8
        · simp (disch := first | assumption | omega) only [rX hx, ly_csx, ly_cax, ly_cf, ly_kd, ly_ln, ↓Bool.cond_decide, cond_true, cond_false, ↓bI_p, ↓bV_p, ↓bL_p, bIJ_s, bVJ_s, bLJ_s, ↓am_let_s, Nat.blt, Nat.ble, Bool.and_true, Bool.true_and, Bool.and_self, Int.cast_ofNat_Int, am_i_add, am_i_sub, am_i_mul, am_ok_i, am_i_cl, n_lt, n_le, n_eq, n_lt0, n_le0, n_0lt, n_0le, n_eq0, ne_eq, ↓reduceIte, not_true_eq_false, not_false_eq_true, and_true, true_and, and_false, false_and, eq_T, eq_F, lt_T, lt_F, le_T, le_F, qn_T, qn_F, and_F, b01_T, b01_F, e_isIn, Int32.toInt_toInt64, am_i_toInt, am_l_toInt, Int.toNat_natCast, Int.reduceToNat, Int.reduceAdd, Int.reduceSub, Int.reduceMul, Int.reduceNeg, Nat.reduceAdd, Nat.reduceMul, Nat.add_zero, Nat.mul_zero, Nat.zero_add, am_zb0, am_zb1, wh, fl, sg_X10_statement_161]
        · simp (disch := first | assumption | omega) only [rX hx, ly_csx, ly_cax, ly_cf, ly_kd, ly_ln, ↓Bool.cond_decide, cond_true, cond_false, ↓bI_p, ↓bV_p, ↓bL_p, bIJ_s, bVJ_s, bLJ_s, ↓am_let_s, Nat.blt, Nat.ble, Bool.and_true, Bool.true_and, Bool.and_self, Int.cast_ofNat_Int, am_i_add, am_i_sub, am_i_mul, am_ok_i, am_i_cl, n_lt, n_le, n_eq, n_lt0, n_le0, n_0lt, n_0le, n_eq0, ne_eq, ↓reduceIte, not_true_eq_false, not_false_eq_true, and_true, true_and, and_false, false_and, eq_T, eq_F, lt_T, lt_F, le_T, le_F, qn_T, qn_F, and_F, b01_T, b01_F, e_isIn, Int32.toInt_toInt64, am_i_toInt, am_l_toInt, Int.toNat_natCast, Int.reduceToNat, Int.reduceAdd, Int.reduceSub, Int.reduceMul, Int.reduceNeg, Nat.reduceAdd, Nat.reduceMul, Nat.add_zero, Nat.mul_zero, Nat.zero_add, am_zb0, am_zb1, wh, fl, sg_X10_statement_161]
/-- which formula is told here, -1 none -/
theorem x_fh (hx : st_Rx R) (hT : txX T n I R) (hS : scX T n p I) {f : Int} (hf : (tW T n p = 9 ∧ f = 0) ∨ (tW T n p = 10 ∧ f = 1) ∨ (tW T n p = 11 ∧ f = 2) ∨ (¬ tW T n p = 9 ∧ ¬ tW T n p = 10 ∧ ¬ tW T n p = 11 ∧ f = -1)) : am_E (d + 2) 77 0 [(0, .ref 30)] [] (I, J, R, 138) = some (some (.int (am_i f)), (I, J, R, 138)) := by
  have tb := tW_b (T := T) (n := n) (p := p)
  have wh := fun d => e_wordHere (d := d) (J := J) (R := R) (vw_p hT hS)
  rw [sg_X10_formulaHere_0]
  rcases hf with ⟨w, rfl⟩ | ⟨w, rfl⟩ | ⟨w, rfl⟩ | ⟨w1, w2, w3, rfl⟩
  · simp (disch := first | assumption | omega) only [rX hx, ly_csx, ly_cax, ly_cf, ly_kd, ly_ln, ↓Bool.cond_decide, cond_true, cond_false, ↓bI_p, ↓bV_p, ↓bL_p, bIJ_s, bVJ_s, bLJ_s, ↓am_let_s, Nat.blt, Nat.ble, Bool.and_true, Bool.true_and, Bool.and_self, Int.cast_ofNat_Int, am_i_add, am_i_sub, am_i_mul, am_ok_i, am_i_cl, n_lt, n_le, n_eq, n_lt0, n_le0, n_0lt, n_0le, n_eq0, ne_eq, ↓reduceIte, not_true_eq_false, not_false_eq_true, and_true, true_and, and_false, false_and, eq_T, eq_F, lt_T, lt_F, le_T, le_F, qn_T, qn_F, and_F, b01_T, b01_F, e_isIn, Int32.toInt_toInt64, am_i_toInt, am_l_toInt, Int.toNat_natCast, Int.reduceToNat, Int.reduceAdd, Int.reduceSub, Int.reduceMul, Int.reduceNeg, Nat.reduceAdd, Nat.reduceMul, Nat.add_zero, Nat.mul_zero, Nat.zero_add, am_zb0, am_zb1, wh]
  · simp (disch := first | assumption | omega) only [rX hx, ly_csx, ly_cax, ly_cf, ly_kd, ly_ln, ↓Bool.cond_decide, cond_true, cond_false, ↓bI_p, ↓bV_p, ↓bL_p, bIJ_s, bVJ_s, bLJ_s, ↓am_let_s, Nat.blt, Nat.ble, Bool.and_true, Bool.true_and, Bool.and_self, Int.cast_ofNat_Int, am_i_add, am_i_sub, am_i_mul, am_ok_i, am_i_cl, n_lt, n_le, n_eq, n_lt0, n_le0, n_0lt, n_0le, n_eq0, ne_eq, ↓reduceIte, not_true_eq_false, not_false_eq_true, and_true, true_and, and_false, false_and, eq_T, eq_F, lt_T, lt_F, le_T, le_F, qn_T, qn_F, and_F, b01_T, b01_F, e_isIn, Int32.toInt_toInt64, am_i_toInt, am_l_toInt, Int.toNat_natCast, Int.reduceToNat, Int.reduceAdd, Int.reduceSub, Int.reduceMul, Int.reduceNeg, Nat.reduceAdd, Nat.reduceMul, Nat.add_zero, Nat.mul_zero, Nat.zero_add, am_zb0, am_zb1, wh]
  · simp (disch := first | assumption | omega) only [rX hx, ly_csx, ly_cax, ly_cf, ly_kd, ly_ln, ↓Bool.cond_decide, cond_true, cond_false, ↓bI_p, ↓bV_p, ↓bL_p, bIJ_s, bVJ_s, bLJ_s, ↓am_let_s, Nat.blt, Nat.ble, Bool.and_true, Bool.true_and, Bool.and_self, Int.cast_ofNat_Int, am_i_add, am_i_sub, am_i_mul, am_ok_i, am_i_cl, n_lt, n_le, n_eq, n_lt0, n_le0, n_0lt, n_0le, n_eq0, ne_eq, ↓reduceIte, not_true_eq_false, not_false_eq_true, and_true, true_and, and_false, false_and, eq_T, eq_F, lt_T, lt_F, le_T, le_F, qn_T, qn_F, and_F, b01_T, b01_F, e_isIn, Int32.toInt_toInt64, am_i_toInt, am_l_toInt, Int.toNat_natCast, Int.reduceToNat, Int.reduceAdd, Int.reduceSub, Int.reduceMul, Int.reduceNeg, Nat.reduceAdd, Nat.reduceMul, Nat.add_zero, Nat.mul_zero, Nat.zero_add, am_zb0, am_zb1, wh]
  · simp (disch := first | assumption | omega) only [rX hx, ly_csx, ly_cax, ly_cf, ly_kd, ly_ln, ↓Bool.cond_decide, cond_true, cond_false, ↓bI_p, ↓bV_p, ↓bL_p, bIJ_s, bVJ_s, bLJ_s, ↓am_let_s, Nat.blt, Nat.ble, Bool.and_true, Bool.true_and, Bool.and_self, Int.cast_ofNat_Int, am_i_add, am_i_sub, am_i_mul, am_ok_i, am_i_cl, n_lt, n_le, n_eq, n_lt0, n_le0, n_0lt, n_0le, n_eq0, ne_eq, ↓reduceIte, not_true_eq_false, not_false_eq_true, and_true, true_and, and_false, false_and, eq_T, eq_F, lt_T, lt_F, le_T, le_F, qn_T, qn_F, and_F, b01_T, b01_F, e_isIn, Int32.toInt_toInt64, am_i_toInt, am_l_toInt, Int.toNat_natCast, Int.reduceToNat, Int.reduceAdd, Int.reduceSub, Int.reduceMul, Int.reduceNeg, Nat.reduceAdd, Nat.reduceMul, Nat.add_zero, Nat.mul_zero, Nat.zero_add, am_zb0, am_zb1, wh]
/-- how read goes through a STATEMENT behind the first one: a formula, or another -/
def xAy (d : Nat) (J : tJ) (R : tR) (I I' : tI) : Prop := (∃ f : Nat, f < 3 ∧ (∀ d, am_E (d + 2) 77 0 [(0, .ref 30)] [] (I, J, R, 138) = some (some (.int (am_i f)), (I, J, R, 138))) ∧ am_E (d + 78) 98 0 [(0, .ref 30), (1, .int (am_i f))] [] (I, J, R, 138) = some (none, (I', J, R, 138))) ∨ ((∀ d, am_E (d + 2) 77 0 [(0, .ref 30)] [] (I, J, R, 138) = some (some (.int (am_i (-1))), (I, J, R, 138))) ∧ am_E (d + 78) 92 0 [(0, .ref 30)] [] (I, J, R, 138) = some (none, (I', J, R, 138)))
/-- a STATEMENT behind the first one, a formula or another -/
theorem x_any (hx : st_Rx R) (h : xB T n c p i X I R) : ∃ I', xAy d J R I I' ∧ xQ T n c (sdSt T n X p) I' ∧ xF c I I' := by
  have h0 := h
  obtain ⟨n16, hT, hS, -⟩ := h0
  by_cases w9 : tW T n p = 9
  · obtain ⟨I1, a1, a2, a3⟩ := x_form (d := d + 1) (J := J) hx h (f := 0) (by decide) (by omega)
    have fh : ∀ d, am_E (d + 2) 77 0 [(0, .ref 30)] [] (I, J, R, 138) = some (some (.int (am_i (0 : Nat))), (I, J, R, 138)) := fun d => x_fh (f := 0) hx hT hS (Or.inl ⟨w9, rfl⟩)
    have es : sdSt T n X p = sdForm T n 0 X p := by unfold sdSt; rw [if_neg (by omega), if_neg (by omega), if_neg (by omega), if_neg (by omega), if_pos w9]
    rw [es]
    exact ⟨I1, Or.inl ⟨0, by omega, fh, a1⟩, a2, a3⟩
  · by_cases w10 : tW T n p = 10
    · obtain ⟨I1, a1, a2, a3⟩ := x_form (d := d + 1) (J := J) hx h (f := 1) (by decide) (by omega)
      have fh : ∀ d, am_E (d + 2) 77 0 [(0, .ref 30)] [] (I, J, R, 138) = some (some (.int (am_i (1 : Nat))), (I, J, R, 138)) := fun d => x_fh (f := 1) hx hT hS (Or.inr (Or.inl ⟨w10, rfl⟩))
      have es : sdSt T n X p = sdForm T n 1 X p := by unfold sdSt; rw [if_neg (by omega), if_neg (by omega), if_neg (by omega), if_neg (by omega), if_neg w9, if_pos w10]
      rw [es]
      exact ⟨I1, Or.inl ⟨1, by omega, fh, a1⟩, a2, a3⟩
    · by_cases w11 : tW T n p = 11
      · obtain ⟨I1, a1, a2, a3⟩ := x_form (d := d + 1) (J := J) hx h (f := 2) (by decide) (by omega)
        have fh : ∀ d, am_E (d + 2) 77 0 [(0, .ref 30)] [] (I, J, R, 138) = some (some (.int (am_i (2 : Nat))), (I, J, R, 138)) := fun d => x_fh (f := 2) hx hT hS (Or.inr (Or.inr (Or.inl ⟨w11, rfl⟩)))
        have es : sdSt T n X p = sdForm T n 2 X p := by unfold sdSt; rw [if_neg (by omega), if_neg (by omega), if_neg (by omega), if_neg (by omega), if_neg w9, if_neg w10, if_pos w11]
        rw [es]
        exact ⟨I1, Or.inl ⟨2, by omega, fh, a1⟩, a2, a3⟩
      · obtain ⟨I1, a1, a2, a3⟩ := x_stmt (d := d) (J := J) hx h w9 w10 w11
        exact ⟨I1, Or.inr ⟨fun d => x_fh (f := -1) hx hT hS (Or.inr (Or.inr (Or.inr ⟨w9, w10, w11, rfl⟩))), a1⟩, a2, a3⟩
end XST
/-! ===== a sound that is being told stays one ===== -/
section SOK
variable {T : Nat → Nat} {n p i : Nat} {X : sSt}
theorem sOK_m {p' : Nat} (h : sOK n p i X) (h1 : p ≤ p') (h2 : p' ≤ n) : sOK n p' i X := by
  obtain ⟨⟨a1, a2, a3, a4, a5, a6, a7, a8, a9⟩, b⟩ := h
  exact ⟨⟨a1, a2, a3, a4, a5, a6, a7, by omega, h2⟩, b⟩
theorem sOK_boat (h : sOK n p i X) (hw : 0 ≤ tW T n p) (e : (sdBoat T n X p).1 = 0) : p < (sdBoat T n X p).2.1 ∧ sOK n (sdBoat T n X p).2.1 i (sdBoat T n X p).2.2 := by
  have hp : p ≤ n := h.1.2.2.2.2.2.2.2.2
  have te := tE_s (T := T) (n := n) (p := p) hp (tW_0 hw)
  by_cases full : X.bn.length = 6
  · have ed : sdBoat T n X p = (5, tAt T n p, X) := if_pos full
    rw [ed] at e
    exact absurd e (by show ¬ ((5 : Nat) = 0); decide)
  · obtain ⟨r2, hr2⟩ : ∃ r2, r2 = aK T n (tE T n p) X := ⟨_, rfl⟩
    obtain ⟨r3, hr3⟩ : ∃ r3, r3 = rS r2 (fun p => aW T n p 2) := ⟨_, rfl⟩
    obtain ⟨r4, hr4⟩ : ∃ r4, r4 = rS r3 (fun p => aN T n p 0 X.la) := ⟨_, rfl⟩
    obtain ⟨r5, hr5⟩ : ∃ r5, r5 = rS r4 (fun p => aW T n p 3) := ⟨_, rfl⟩
    obtain ⟨r6, hr6⟩ : ∃ r6, r6 = rS r5 (fun p => aN T n p 0 99) := ⟨_, rfl⟩
    obtain ⟨r7, hr7⟩ : ∃ r7, r7 = rS r6 (fun p => aW T n p 4) := ⟨_, rfl⟩
    obtain ⟨r8, hr8⟩ : ∃ r8, r8 = rS r7 (fun p => aN T n p 0 99) := ⟨_, rfl⟩
    obtain ⟨ch, ok⟩ := sdBoat_e (T := T) (n := n) (p := p) (X := X) full hr2 hr3 hr4 hr5 hr6 hr7 hr8
    rw [ch] at e ⊢
    by_cases q8 : r8.1 = 0
    · rw [if_pos q8]
      obtain ⟨q2, q3, q4, q5, q6, q7⟩ := ok q8
      have k2 := (aK_b (T := T) (X := X) te.2).1 (by rw [← hr2]; exact q2)
      rw [← hr2] at k2
      rw [rS_0 q2] at hr3
      have k3 := (aW_b (T := T) (w := 2) k2.2.2.2.2).1 (by rw [← hr3]; exact q3)
      rw [← hr3] at k3
      rw [rS_0 q3] at hr4
      have k4 := (aN_b (T := T) (lo := 0) (hi := X.la) k3.2.2.2).1 (by rw [← hr4]; exact q4)
      rw [← hr4] at k4
      rw [rS_0 q4] at hr5
      have k5 := (aW_b (T := T) (w := 3) k4.2.2.2.2.2.2).1 (by rw [← hr5]; exact q5)
      rw [← hr5] at k5
      rw [rS_0 q5] at hr6
      have k6 := (aN_b (T := T) (lo := 0) (hi := 99) k5.2.2.2).1 (by rw [← hr6]; exact q6)
      rw [← hr6] at k6
      rw [rS_0 q6] at hr7
      have k7 := (aW_b (T := T) (w := 4) k6.2.2.2.2.2.2).1 (by rw [← hr7]; exact q7)
      rw [← hr7] at k7
      rw [rS_0 q7] at hr8
      have k8 := (aN_b (T := T) (lo := 0) (hi := 99) k7.2.2.2).1 (by rw [← hr8]; exact q8)
      rw [← hr8] at k8
      obtain ⟨t1, t2, -, -⟩ := tL_b k2.1
      obtain ⟨l1, l2, l3⟩ := tL_x te.2 t1
      obtain ⟨⟨a1, a2, a3, a4, a5, a6, a7, a8, a9⟩, b1, b2, b3, b4, b5⟩ := h
      refine ⟨by show p < r8.2; omega, ⟨a1, a2, a3, a4, a5, ?_, a7, by show X.sz + 4 ≤ r8.2; omega, k8.2.2.2.2.2.2⟩, fun x hx => ?_, b2, fun l hl => ?_, b4, b5⟩
      · show (X.bn ++ [(tL T n (tE T n p), tV T n r3.2, tV T n r5.2, tV T n r7.2, ([] : List Nat))]).length ≤ 6
        rw [List.length_append]
        show X.bn.length + 1 ≤ 6
        omega
      · have hx' : x ∈ X.bn ++ [(tL T n (tE T n p), tV T n r3.2, tV T n r5.2, tV T n r7.2, ([] : List Nat))] := hx
        rcases List.mem_append.mp hx' with c | c
        · exact b1 x c
        · have ex := List.mem_singleton.mp c
          subst ex
          exact ⟨k4.2.2.2.1, k6.2.2.2.1, k8.2.2.2.1, by show 0 ≤ 6; omega, fun v hv => by cases hv⟩
      · have hl' : l ∈ (X.bn ++ [(tL T n (tE T n p), tV T n r3.2, tV T n r5.2, tV T n r7.2, ([] : List Nat))]).map sBo.nm ++ X.rd.map Prod.fst := hl
        rw [List.map_append, List.mem_append, List.mem_append] at hl'
        rcases hl' with (c | c) | c
        · exact b3 l (List.mem_append.mpr (Or.inl c))
        · have ex : l = tL T n (tE T n p) := List.mem_singleton.mp c
          subst ex
          exact ⟨by omega, by omega, l3⟩
        · exact b3 l (List.mem_append.mpr (Or.inr c))
    · rw [if_neg q8] at e
      exact absurd e q8
theorem sOK_rider (h : sOK n p i X) (hw : 0 ≤ tW T n p) (e : (sdRider T n X p).1 = 0) : p < (sdRider T n X p).2.1 ∧ sOK n (sdRider T n X p).2.1 i (sdRider T n X p).2.2 := by
  have hp : p ≤ n := h.1.2.2.2.2.2.2.2.2
  have te := tE_s (T := T) (n := n) (p := p) hp (tW_0 hw)
  by_cases full : X.rd.length = 6
  · have ed : sdRider T n X p = (5, tAt T n p, X) := if_pos full
    rw [ed] at e
    exact absurd e (by show ¬ ((5 : Nat) = 0); decide)
  · obtain ⟨r2, hr2⟩ : ∃ r2, r2 = aK T n (tE T n p) X := ⟨_, rfl⟩
    obtain ⟨r3, hr3⟩ : ∃ r3, r3 = rS r2 (fun p => aW T n p 8) := ⟨_, rfl⟩
    obtain ⟨r4, hr4⟩ : ∃ r4, r4 = rS r3 (fun p => aN T n p 0 7) := ⟨_, rfl⟩
    obtain ⟨ch, ok⟩ := sdRider_e (T := T) (n := n) (p := p) (X := X) full hr2 hr3 hr4
    rw [ch] at e ⊢
    by_cases q4 : r4.1 = 0
    · rw [if_pos q4]
      obtain ⟨q2, q3⟩ := ok q4
      have k2 := (aK_b (T := T) (X := X) te.2).1 (by rw [← hr2]; exact q2)
      rw [← hr2] at k2
      rw [rS_0 q2] at hr3
      have k3 := (aW_b (T := T) (w := 8) k2.2.2.2.2).1 (by rw [← hr3]; exact q3)
      rw [← hr3] at k3
      rw [rS_0 q3] at hr4
      have k4 := (aN_b (T := T) (lo := 0) (hi := 7) k3.2.2.2).1 (by rw [← hr4]; exact q4)
      rw [← hr4] at k4
      obtain ⟨t1, t2, -, -⟩ := tL_b k2.1
      obtain ⟨l1, l2, l3⟩ := tL_x te.2 t1
      obtain ⟨⟨a1, a2, a3, a4, a5, a6, a7, a8, a9⟩, b1, b2, b3, b4, b5⟩ := h
      refine ⟨by show p < r4.2; omega, ⟨a1, a2, a3, a4, a5, a6, ?_, by show X.sz + 4 ≤ r4.2; omega, k4.2.2.2.2.2.2⟩, b1, fun x hx => ?_, fun l hl => ?_, b4, b5⟩
      · show (X.rd ++ [(tL T n (tE T n p), tV T n r3.2)]).length ≤ 6
        rw [List.length_append]
        show X.rd.length + 1 ≤ 6
        omega
      · have hx' : x ∈ X.rd ++ [(tL T n (tE T n p), tV T n r3.2)] := hx
        rcases List.mem_append.mp hx' with c | c
        · exact b2 x c
        · have ex := List.mem_singleton.mp c
          subst ex
          show tV T n r3.2 < 8
          omega
      · have hl' : l ∈ X.bn.map sBo.nm ++ (X.rd ++ [(tL T n (tE T n p), tV T n r3.2)]).map Prod.fst := hl
        rw [List.map_append, List.mem_append, List.mem_append] at hl'
        rcases hl' with c | c | c
        · exact b3 l (List.mem_append.mpr (Or.inl c))
        · exact b3 l (List.mem_append.mpr (Or.inr c))
        · have ex : l = tL T n (tE T n p) := List.mem_singleton.mp c
          subst ex
          exact ⟨by omega, by omega, l3⟩
    · rw [if_neg q4] at e
      exact absurd e q4
end SOK
