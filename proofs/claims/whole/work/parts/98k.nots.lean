/-! ===== nots that wait are dropped ===== -/
def dnB : List Nat → List Int → Nat → List Nat × List Int × Nat
  | [], C, o => ([], C, o)
  | w :: W, C, o => if w = 12 then dnB W (C ++ [12]) (o - 1) else (w :: W, C, o)
section NOTS
variable {d D : Nat} {J : tJ} {R : tR} {T : Nat → Nat} {n so z p o f : Nat} {W : List Nat} {C : List Int} {I I' I'' : tI}
theorem e_nots (hm : st_Rm R) : ∀ (W : List Nat) (C : List Int) (o : Nat) (I : tI), yS T n so 0 z p o W C I → ∃ I', (∀ d, am_E (d + 3) 275 0 [(0, .ref 64)] [] (I, J, R, 138) = some (none, (I', J, R, 138))) ∧ yS T n so 0 z p (dnB W C o).2.2 (dnB W C o).1 (dnB W C o).2.1 I' ∧ yN I I'
  | [], C, o, I, h => by
    have h5 := h.2.1.2.1
    have f12 : ∀ d, am_E (d + 1) 261 0 [(0, .ref 64), (1, .int (am_i 12))] [] (I, J, R, 138) = some (some (.int (am_i 0)), (I, J, R, 138)) := on_f (v := 12) hm h.2.2.1 (by omega) (fun c => by cases c)
    refine ⟨I, fun d => ?_, h, yN_r⟩
    rw [sg_X12_qDropsNots_0]
    simp (disch := first | assumption | omega) only [rM hm, ly_csm, ly_cam, ly_cf, ly_kd, ly_ln, ↓Bool.cond_decide, cond_true, cond_false, ↓bI_p, ↓bV_p, ↓bL_p, bIJ_s, bVJ_s, bLJ_s, ↓am_let_s, Nat.blt, Nat.ble, Bool.and_true, Bool.true_and, Bool.and_self, Int.cast_ofNat_Int, am_i_add, am_i_sub, am_i_mul, am_ok_i, am_i_cl, n_lt, n_le, n_eq, n_lt0, n_le0, n_0lt, n_0le, n_eq0, ne_eq, ↓reduceIte, not_true_eq_false, not_false_eq_true, and_true, true_and, and_false, false_and, eq_T, eq_F, lt_T, lt_F, le_T, le_F, qn_T, qn_F, and_F, b01_T, b01_F, e_isIn, Int32.toInt_toInt64, am_i_toInt, am_l_toInt, Int.toNat_natCast, Int.reduceToNat, Int.reduceAdd, Int.reduceSub, Int.reduceMul, Int.reduceNeg, Nat.reduceAdd, Nat.reduceMul, Nat.add_zero, Nat.mul_zero, Nat.zero_add, am_zb0, am_zb1, h5, f12, sg_X12_qDropsNots_33]
  | w :: W, C, o, I, h => by
    have h5 := h.2.1.2.1
    by_cases q : w = 12
    · subst q
      have eE : dnB (12 :: W) C o = dnB W (C ++ [12]) (o - 1) := if_pos rfl
      rw [eE]
      have t12 : ∀ d, am_E (d + 1) 261 0 [(0, .ref 64), (1, .int (am_i 12))] [] (I, J, R, 138) = some (some (.int (am_i 1)), (I, J, R, 138)) := on_t (v := 12) hm h.2.2.1 (by omega)
      have h98 := h.2.2.1.2.2.2.1
      have hnb := h.2.2.2.2.2.1
      have hl : C.length + (W.length + 1) + 1 + z ≤ p := h.2.2.2.2.1
      have o6 := yS_o6 h
      have lc : (C ++ [(12 : Int)]).length = C.length + 1 := by rw [List.length_append]; rfl
      rw [nbW_c, if_pos (by omega)] at hnb
      have hs := sS_o (o' := o - 1) h.2.2.1 (by omega)
      obtain ⟨I1, a1, a2, a3⟩ := e_qDrops (J := J) hm hs
      have fr : ∀ q k, ¬ sqC q k → I1 q k = I q k := fun q k e => by rw [a3 q k e, am_up_o (by unfold sqC at e; omega)]
      have y1 : yS T n so 0 z p (o - 1) W (C ++ [12]) I1 := yS_q h a2 fr (by omega) (by omega) (by omega)
      obtain ⟨I2, b1, b2, b3⟩ := e_nots hm W (C ++ [12]) (o - 1) I1 y1
      have eo : (o : Int) - 1 = ((o - 1 : Nat) : Int) := by omega
      refine ⟨I2, fun d => ?_, b2, yN_t (yN_q fr) b3⟩
      rw [← b1 d, sg_X12_qDropsNots_0]
      simp (disch := first | assumption | omega) only [rM hm, ly_csm, ly_cam, ly_cf, ly_kd, ly_ln, ↓Bool.cond_decide, cond_true, cond_false, ↓bI_p, ↓bV_p, ↓bL_p, bIJ_s, bVJ_s, bLJ_s, ↓am_let_s, Nat.blt, Nat.ble, Bool.and_true, Bool.true_and, Bool.and_self, Int.cast_ofNat_Int, am_i_add, am_i_sub, am_i_mul, am_ok_i, am_i_cl, n_lt, n_le, n_eq, n_lt0, n_le0, n_0lt, n_0le, n_eq0, ne_eq, ↓reduceIte, not_true_eq_false, not_false_eq_true, and_true, true_and, and_false, false_and, eq_T, eq_F, lt_T, lt_F, le_T, le_F, qn_T, qn_F, and_F, b01_T, b01_F, e_isIn, Int32.toInt_toInt64, am_i_toInt, am_l_toInt, Int.toNat_natCast, Int.reduceToNat, Int.reduceAdd, Int.reduceSub, Int.reduceMul, Int.reduceNeg, Nat.reduceAdd, Nat.reduceMul, Nat.add_zero, Nat.mul_zero, Nat.zero_add, am_zb0, am_zb1, h5, t12, h98, eo, a1]
    · have eE : dnB (w :: W) C o = (w :: W, C, o) := if_neg q
      rw [eE]
      have f12 : ∀ d, am_E (d + 1) 261 0 [(0, .ref 64), (1, .int (am_i 12))] [] (I, J, R, 138) = some (some (.int (am_i 0)), (I, J, R, 138)) := on_f (v := 12) hm h.2.2.1 (by omega) (hd_n q)
      refine ⟨I, fun d => ?_, h, yN_r⟩
      rw [sg_X12_qDropsNots_0]
      simp (disch := first | assumption | omega) only [rM hm, ly_csm, ly_cam, ly_cf, ly_kd, ly_ln, ↓Bool.cond_decide, cond_true, cond_false, ↓bI_p, ↓bV_p, ↓bL_p, bIJ_s, bVJ_s, bLJ_s, ↓am_let_s, Nat.blt, Nat.ble, Bool.and_true, Bool.true_and, Bool.and_self, Int.cast_ofNat_Int, am_i_add, am_i_sub, am_i_mul, am_ok_i, am_i_cl, n_lt, n_le, n_eq, n_lt0, n_le0, n_0lt, n_0le, n_eq0, ne_eq, ↓reduceIte, not_true_eq_false, not_false_eq_true, and_true, true_and, and_false, false_and, eq_T, eq_F, lt_T, lt_F, le_T, le_F, qn_T, qn_F, and_F, b01_T, b01_F, e_isIn, Int32.toInt_toInt64, am_i_toInt, am_l_toInt, Int.toNat_natCast, Int.reduceToNat, Int.reduceAdd, Int.reduceSub, Int.reduceMul, Int.reduceNeg, Nat.reduceAdd, Nat.reduceMul, Nat.add_zero, Nat.mul_zero, Nat.zero_add, am_zb0, am_zb1, h5, f12, sg_X12_qDropsNots_33]
theorem e_notE (hm : st_Rm R) {e pl b : Nat} (h : yE T n so b z e pl I) : am_E (d + 1) 275 0 [(0, .ref 64)] [] (I, J, R, 138) = some (none, (I, J, R, 138)) := by
  have h5 := yE_5 h
  rw [sg_X12_qDropsNots_0]
  simp (disch := first | assumption | omega) only [rM hm, ly_csm, ly_cam, ly_cf, ly_kd, ly_ln, ↓Bool.cond_decide, cond_true, cond_false, ↓bI_p, ↓bV_p, ↓bL_p, bIJ_s, bVJ_s, bLJ_s, ↓am_let_s, Nat.blt, Nat.ble, Bool.and_true, Bool.true_and, Bool.and_self, Int.cast_ofNat_Int, am_i_add, am_i_sub, am_i_mul, am_ok_i, am_i_cl, n_lt, n_le, n_eq, n_lt0, n_le0, n_0lt, n_0le, n_eq0, ne_eq, ↓reduceIte, not_true_eq_false, not_false_eq_true, and_true, true_and, and_false, false_and, eq_T, eq_F, lt_T, lt_F, le_T, le_F, qn_T, qn_F, and_F, b01_T, b01_F, e_isIn, Int32.toInt_toInt64, am_i_toInt, am_l_toInt, Int.toNat_natCast, Int.reduceToNat, Int.reduceAdd, Int.reduceSub, Int.reduceMul, Int.reduceNeg, Nat.reduceAdd, Nat.reduceMul, Nat.add_zero, Nat.mul_zero, Nat.zero_add, am_zb0, am_zb1, h5, sg_X12_qDropsNots_33]
end NOTS
