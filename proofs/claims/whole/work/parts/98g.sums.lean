/-! ===== qSums as a whole ===== -/
noncomputable def sK2 (D : Nat) (was : Int32) : yK2 := fun v1 M2 => bif decide (v1 = 0) then am_E (D + 1) 272 48 [(0, .ref 64), (1, .int was)] [] M2 else am_E (D + 1) 272 15 [(0, .ref 64), (1, .int was), (2, .int (am_i 1))] [] M2
noncomputable def sK (D : Nat) (was : Int32) : yK := fun M1 => bif am_cf M1.2.2.2 64 12 then (bif decide ((M1.1 64 5) ≠ 0) then am_E (D + 1) 272 48 [(0, .ref 64), (1, .int was)] [] M1 else (am_bI (am_E D 271 0 [(0, .ref 64)] [] M1) (sK2 D was))) else none
noncomputable def sF (D : Nat) (J : tJ) (R : tR) (was : Int32) (I : tI) : am_R := am_E (D + 1) 272 48 [(0, .ref 64), (1, .int was)] [] (I, J, R, 138)
section SUMS
variable {d D : Nat} {J : tJ} {R : tR} {T : Nat → Nat} {n so b z p o f : Nat} {W : List Nat} {C : List Int} {I I' I'' : tI} {was : Int32}
theorem y_all {K : yK} {K' : yK2} {F : tI → am_R} (hm : st_Rm R) (hD : 6 ≤ D) (hC : yC D J R K K' F) : ∀ f, yP0 T n so b z D J R K K' F f ∧ yP1 T n so b z D J R K K' F f ∧ yP2 T n so b z D J R K' F f ∧ yP3 T n so b z D J R K K' F f ∧ yP4 T n so b z D J R K' F f
  | 0 => ⟨fun _ _ _ _ _ hf => absurd hf (by omega), fun _ _ _ _ _ hf => absurd hf (by omega), fun _ _ _ _ _ _ hf => absurd hf (by omega), fun _ _ _ _ _ hf => absurd hf (by omega), fun _ _ _ _ _ _ hf => absurd hf (by omega)⟩
  | f + 1 => by
    obtain ⟨i0, i1, i2, i3, i4⟩ := y_all hm hD hC f
    exact ⟨y_0 hm hD hC i0 i3, y_1 i0 i2, y_2 hm hD hC i0 i2, y_3 i1 i4, y_4 hm hD hC i1 i4⟩
theorem s15 (hm : st_Rm R) (h5 : I 64 5 = am_i 0) : am_E (d + 2) 272 15 [(0, .ref 64), (1, .int was), (2, .int (am_i 1))] [] (I, J, R, 138) = y1 (d + 1) J R (sK (d + 1) was) I := by
  have e : am_E (d + 2) 272 15 [(0, .ref 64), (1, .int was), (2, .int (am_i 1))] [] (I, J, R, 138) = bVJ (sK (d + 1) was) (am_E (d + 1) 270 0 [(0, .ref 64)] [] (I, J, R, 138)) := by
    rw [sg_X12_qSums_15]
    simp (disch := first | assumption | omega) only [rM hm, ly_csm, ly_cam, ly_cf, ly_kd, ly_ln, ↓Bool.cond_decide, cond_true, cond_false, ↓bI_p, ↓bV_p, ↓bL_p, bIJ_s, bVJ_s, bLJ_s, ↓am_let_s, Nat.blt, Nat.ble, Bool.and_true, Bool.true_and, Bool.and_self, Int.cast_ofNat_Int, am_i_add, am_i_sub, am_i_mul, am_ok_i, am_i_cl, n_lt, n_le, n_eq, n_lt0, n_le0, n_0lt, n_0le, n_eq0, ne_eq, ↓reduceIte, not_true_eq_false, not_false_eq_true, and_true, true_and, and_false, false_and, eq_T, eq_F, lt_T, lt_F, le_T, le_F, qn_T, qn_F, and_F, b01_T, b01_F, e_isIn, Int32.toInt_toInt64, am_i_toInt, am_l_toInt, Int.toNat_natCast, Int.reduceToNat, Int.reduceAdd, Int.reduceSub, Int.reduceMul, Int.reduceNeg, Nat.reduceAdd, Nat.reduceMul, Nat.add_zero, Nat.mul_zero, Nat.zero_add, am_zb0, am_zb1, h5]
    rfl
  rw [e, sg_X12_qPartTold_0]
  rfl
theorem s_yC (hm : st_Rm R) : yC (d + 1) J R (sK (d + 1) was) (sK2 (d + 1) was) (sF (d + 1) J R was) := by
  refine ⟨fun I h5 => ?_, fun I h5 => ?_, fun I h5 => ?_, fun I h5 => ?_⟩
  · unfold sK
    simp (disch := first | assumption | omega) only [rM hm, ly_csm, ly_cam, ly_cf, ly_kd, ly_ln, ↓Bool.cond_decide, cond_true, cond_false, ↓bI_p, ↓bV_p, ↓bL_p, bIJ_s, bVJ_s, bLJ_s, ↓am_let_s, Nat.blt, Nat.ble, Bool.and_true, Bool.true_and, Bool.and_self, Int.cast_ofNat_Int, am_i_add, am_i_sub, am_i_mul, am_ok_i, am_i_cl, n_lt, n_le, n_eq, n_lt0, n_le0, n_0lt, n_0le, n_eq0, ne_eq, ↓reduceIte, not_true_eq_false, not_false_eq_true, and_true, true_and, and_false, false_and, eq_T, eq_F, lt_T, lt_F, le_T, le_F, qn_T, qn_F, and_F, b01_T, b01_F, e_isIn, Int32.toInt_toInt64, am_i_toInt, am_l_toInt, Int.toNat_natCast, Int.reduceToNat, Int.reduceAdd, Int.reduceSub, Int.reduceMul, Int.reduceNeg, Nat.reduceAdd, Nat.reduceMul, Nat.add_zero, Nat.mul_zero, Nat.zero_add, am_zb0, am_zb1, h5]
    rfl
  · unfold sK
    simp (disch := first | assumption | omega) only [rM hm, ly_csm, ly_cam, ly_cf, ly_kd, ly_ln, ↓Bool.cond_decide, cond_true, cond_false, ↓bI_p, ↓bV_p, ↓bL_p, bIJ_s, bVJ_s, bLJ_s, ↓am_let_s, Nat.blt, Nat.ble, Bool.and_true, Bool.true_and, Bool.and_self, Int.cast_ofNat_Int, am_i_add, am_i_sub, am_i_mul, am_ok_i, am_i_cl, n_lt, n_le, n_eq, n_lt0, n_le0, n_0lt, n_0le, n_eq0, ne_eq, ↓reduceIte, not_true_eq_false, not_false_eq_true, and_true, true_and, and_false, false_and, eq_T, eq_F, lt_T, lt_F, le_T, le_F, qn_T, qn_F, and_F, b01_T, b01_F, e_isIn, Int32.toInt_toInt64, am_i_toInt, am_l_toInt, Int.toNat_natCast, Int.reduceToNat, Int.reduceAdd, Int.reduceSub, Int.reduceMul, Int.reduceNeg, Nat.reduceAdd, Nat.reduceMul, Nat.add_zero, Nat.mul_zero, Nat.zero_add, am_zb0, am_zb1, h5]
    rfl
  · unfold sK2
    simp (disch := first | assumption | omega) only [rM hm, ly_csm, ly_cam, ly_cf, ly_kd, ly_ln, ↓Bool.cond_decide, cond_true, cond_false, ↓bI_p, ↓bV_p, ↓bL_p, bIJ_s, bVJ_s, bLJ_s, ↓am_let_s, Nat.blt, Nat.ble, Bool.and_true, Bool.true_and, Bool.and_self, Int.cast_ofNat_Int, am_i_add, am_i_sub, am_i_mul, am_ok_i, am_i_cl, n_lt, n_le, n_eq, n_lt0, n_le0, n_0lt, n_0le, n_eq0, ne_eq, ↓reduceIte, not_true_eq_false, not_false_eq_true, and_true, true_and, and_false, false_and, eq_T, eq_F, lt_T, lt_F, le_T, le_F, qn_T, qn_F, and_F, b01_T, b01_F, e_isIn, Int32.toInt_toInt64, am_i_toInt, am_l_toInt, Int.toNat_natCast, Int.reduceToNat, Int.reduceAdd, Int.reduceSub, Int.reduceMul, Int.reduceNeg, Nat.reduceAdd, Nat.reduceMul, Nat.add_zero, Nat.mul_zero, Nat.zero_add, am_zb0, am_zb1]
    rfl
  · unfold sK2
    simp (disch := first | assumption | omega) only [rM hm, ly_csm, ly_cam, ly_cf, ly_kd, ly_ln, ↓Bool.cond_decide, cond_true, cond_false, ↓bI_p, ↓bV_p, ↓bL_p, bIJ_s, bVJ_s, bLJ_s, ↓am_let_s, Nat.blt, Nat.ble, Bool.and_true, Bool.true_and, Bool.and_self, Int.cast_ofNat_Int, am_i_add, am_i_sub, am_i_mul, am_ok_i, am_i_cl, n_lt, n_le, n_eq, n_lt0, n_le0, n_0lt, n_0le, n_eq0, ne_eq, ↓reduceIte, not_true_eq_false, not_false_eq_true, and_true, true_and, and_false, false_and, eq_T, eq_F, lt_T, lt_F, le_T, le_F, qn_T, qn_F, and_F, b01_T, b01_F, e_isIn, Int32.toInt_toInt64, am_i_toInt, am_l_toInt, Int.toNat_natCast, Int.reduceToNat, Int.reduceAdd, Int.reduceSub, Int.reduceMul, Int.reduceNeg, Nat.reduceAdd, Nat.reduceMul, Nat.add_zero, Nat.mul_zero, Nat.zero_add, am_zb0, am_zb1]
    exact s15 hm h5
theorem s48 {M : am_Mem} : am_E (d + 1) 272 48 [(0, .ref 64), (1, .int was)] [] M = am_E (d + 1) 272 53 [(0, .ref 64), (1, .int was)] [] M := by
  rw [sg_X12_qSums_48, sg_X12_qSums_15]
  simp (disch := first | assumption | omega) only [↓Bool.cond_decide, cond_true, cond_false, ↓am_let_s, ↓bI_p, bIJ_s, ↓bV_p, bVJ_s, ↓bL_p, bLJ_s, ly_cf, Bool.and_self, Bool.and_true, am_i_add, am_i_sub, am_i_mul, am_ok_i, am_i_cl, n_lt, n_le, n_eq, n_lt0, n_le0, n_0lt, n_0le, n_eq0, ne_eq, ↓reduceIte, not_true_eq_false, not_false_eq_true, and_true, true_and, and_false, false_and, eq_T, eq_F, lt_T, lt_F, le_T, le_F, qn_T, qn_F, and_F, b01_T, b01_F, e_isIn, Int32.toInt_toInt64, am_i_toInt, am_l_toInt, Int.toNat_natCast, Int.reduceToNat, Int.reduceAdd, Int.reduceSub, Int.reduceMul, Int.reduceNeg, Nat.reduceAdd, Nat.reduceMul, Nat.add_zero, Nat.mul_zero, Nat.zero_add, am_zb0, am_zb1]
theorem s_err (hm : st_Rm R) {e pl : Nat} (h : yE T n so b z e pl I) : sF (d + 1) J R was I = some (none, (am_up I 64 99 was, J, R, 138)) := by
  have h5 := yE_5 h
  unfold sF
  rw [s48, sg_X12_qSums_53]
  simp (disch := first | assumption | omega) only [rM hm, ly_csm, ly_cam, ly_cf, ly_kd, ly_ln, ↓Bool.cond_decide, cond_true, cond_false, ↓bI_p, ↓bV_p, ↓bL_p, bIJ_s, bVJ_s, bLJ_s, ↓am_let_s, Nat.blt, Nat.ble, Bool.and_true, Bool.true_and, Bool.and_self, Int.cast_ofNat_Int, am_i_add, am_i_sub, am_i_mul, am_ok_i, am_i_cl, n_lt, n_le, n_eq, n_lt0, n_le0, n_0lt, n_0le, n_eq0, ne_eq, ↓reduceIte, not_true_eq_false, not_false_eq_true, and_true, true_and, and_false, false_and, eq_T, eq_F, lt_T, lt_F, le_T, le_F, qn_T, qn_F, and_F, b01_T, b01_F, e_isIn, Int32.toInt_toInt64, am_i_toInt, am_l_toInt, Int.toNat_natCast, Int.reduceToNat, Int.reduceAdd, Int.reduceSub, Int.reduceMul, Int.reduceNeg, Nat.reduceAdd, Nat.reduceMul, Nat.add_zero, Nat.mul_zero, Nat.zero_add, am_zb0, am_zb1, h5, sg_X12_qSums_78]
theorem s_end (hm : st_Rm R) : ∀ (ops : List Nat) (C : List Int) (I : tI), (∀ w ∈ ops, w < 12) → yS T n so W.length z p o (ops ++ W) C I → ∃ I', (∀ d, am_E (d + 3) 272 53 [(0, .ref 64), (1, .int was)] [] (I, J, R, 138) = some (none, (am_up I' 64 99 was, J, R, 138))) ∧ yS T n so W.length z p o W (C ++ cI ops) I' ∧ yN I I'
  | [], C, I, _, h => by
    have h' : yS T n so W.length z p o W C I := h
    have h5 := h'.2.1.2.1
    have h97 := h'.2.2.1.2.2.1
    have h99 := h'.2.2.1.2.2.2.2.1
    have n16 := h'.1.1
    have hl := h'.2.2.2.2.1
    have hp := h'.2.2.2.1
    refine ⟨I, fun d => ?_, by show yS T n so W.length z p o W (C ++ []) I; rw [List.append_nil]; exact h', yN_r⟩
    rw [sg_X12_qSums_53]
    simp (disch := first | assumption | omega) only [rM hm, ly_csm, ly_cam, ly_cf, ly_kd, ly_ln, ↓Bool.cond_decide, cond_true, cond_false, ↓bI_p, ↓bV_p, ↓bL_p, bIJ_s, bVJ_s, bLJ_s, ↓am_let_s, Nat.blt, Nat.ble, Bool.and_true, Bool.true_and, Bool.and_self, Int.cast_ofNat_Int, am_i_add, am_i_sub, am_i_mul, am_ok_i, am_i_cl, n_lt, n_le, n_eq, n_lt0, n_le0, n_0lt, n_0le, n_eq0, ne_eq, ↓reduceIte, not_true_eq_false, not_false_eq_true, and_true, true_and, and_false, false_and, eq_T, eq_F, lt_T, lt_F, le_T, le_F, qn_T, qn_F, and_F, b01_T, b01_F, e_isIn, Int32.toInt_toInt64, am_i_toInt, am_l_toInt, Int.toNat_natCast, Int.reduceToNat, Int.reduceAdd, Int.reduceSub, Int.reduceMul, Int.reduceNeg, Nat.reduceAdd, Nat.reduceMul, Nat.add_zero, Nat.mul_zero, Nat.zero_add, am_zb0, am_zb1, h5, h97, h99, sg_X12_qSums_78]
  | w :: ops, C, I, ho, h => by
    have h' : yS T n so W.length z p o (w :: (ops ++ W)) C I := h
    have w12 := ho w List.mem_cons_self
    have ll : (ops ++ W).length = ops.length + W.length := List.length_append
    have lc : (C ++ [(w : Int)]).length = C.length + 1 := by rw [List.length_append]; rfl
    have hnb := h'.2.2.2.2.2.1
    rw [nbW_c, if_neg (by omega)] at hnb
    have h5 := h'.2.1.2.1
    have h97 : I 64 97 = am_i ((ops ++ W).length + 1 : Nat) := h'.2.2.1.2.2.1
    have h99 := h'.2.2.1.2.2.2.2.1
    have n16 := h'.1.1
    have hl : C.length + ((ops ++ W).length + 1) + 1 + z ≤ p := h'.2.2.2.2.1
    have hp := h'.2.2.2.1
    obtain ⟨I1, a1, a2, a3⟩ := e_qDrops (J := J) hm h'.2.2.1
    have y1 : yS T n so W.length z p o (ops ++ W) (C ++ [(w : Int)]) I1 := yS_q h' a2 a3 (by omega) (by omega) (by omega)
    obtain ⟨I2, b1, b2, b3⟩ := s_end hm ops (C ++ [(w : Int)]) I1 (fun x hx => ho x (List.mem_cons_of_mem _ hx)) y1
    refine ⟨I2, fun d => ?_, by show yS T n so W.length z p o W (C ++ cI (w :: ops)) I2; unfold cI; rw [List.map_cons, List.append_cons]; exact b2, yN_t (yN_q a3) b3⟩
    rw [← b1 d, sg_X12_qSums_53]
    simp (disch := first | assumption | omega) only [rM hm, ly_csm, ly_cam, ly_cf, ly_kd, ly_ln, ↓Bool.cond_decide, cond_true, cond_false, ↓bI_p, ↓bV_p, ↓bL_p, bIJ_s, bVJ_s, bLJ_s, ↓am_let_s, Nat.blt, Nat.ble, Bool.and_true, Bool.true_and, Bool.and_self, Int.cast_ofNat_Int, am_i_add, am_i_sub, am_i_mul, am_ok_i, am_i_cl, n_lt, n_le, n_eq, n_lt0, n_le0, n_0lt, n_0le, n_eq0, ne_eq, ↓reduceIte, not_true_eq_false, not_false_eq_true, and_true, true_and, and_false, false_and, eq_T, eq_F, lt_T, lt_F, le_T, le_F, qn_T, qn_F, and_F, b01_T, b01_F, e_isIn, Int32.toInt_toInt64, am_i_toInt, am_l_toInt, Int.toNat_natCast, Int.reduceToNat, Int.reduceAdd, Int.reduceSub, Int.reduceMul, Int.reduceNeg, Nat.reduceAdd, Nat.reduceMul, Nat.add_zero, Nat.mul_zero, Nat.zero_add, am_zb0, am_zb1, h5, h97, h99, a1]
end SUMS
