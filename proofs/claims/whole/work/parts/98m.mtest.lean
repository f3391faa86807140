/-! ===== a test of the reference: what follows a fact ===== -/
section MT
variable {d : Nat} {J : tJ} {R : tR} {T : Nat → Nat} {n so b z p o : Nat} {W : List Nat} {C : List Int} {I I' I'' : tI}
theorem e_sq (hm : st_Rm R) (h : sS so o b W C I) : ∀ d, am_E (d + 1) 274 0 [(0, .ref 64)] [] (I, J, R, 138) = some (some (.int (b01 (25 ∈ W))), (I, J, R, 138)) := fun d => by
  have := e_sq2 (d := d) (J := J) hm h W.length 0 (by omega)
  rw [List.take_length] at this
  rw [sg_X12_qHasSquare_0]
  exact this
theorem e_t10 (hm : st_Rm R) (hW : ∀ w, W.head? = some w → w ≠ 10) : ∀ (ops : List Nat) (C : List Int) (I : tI), (∀ w ∈ ops, w = 10) → yS T n so b z p o (ops ++ W) C I → b ≤ W.length → C.length + (ops ++ W).length + 2 + z ≤ p → ∃ I', (∀ d, am_E (d + 3) 277 87 [(0, .ref 64)] [] (I, J, R, 138) = some (some (.int (am_i 1)), (I', J, R, 138))) ∧ yS T n so b z p o (10 :: W) (C ++ cI ops) I' ∧ yN I I'
  | [], C, I, _, h, hb, hl => by
    have h' : yS T n so b z p o W C I := h
    have h0 : yS T n so b z p o W C I := h
    have hl' : C.length + W.length + 2 + z ≤ p := hl
    obtain ⟨hT, hR, hS, hp, hl0, hnb, hb0⟩ := h'
    have n16 := hT.1
    have o3 : ∀ d, am_E (d + 1) 261 0 [(0, .ref 64), (1, .int (am_i 10))] [] (I, J, R, 138) = some (some (.int (am_i 0)), (I, J, R, 138)) := on_f (v := 10) hm hS (by omega) (fun c => hW 10 c rfl)
    have ps := push_s (w := 10) hS (by omega) (by omega)
    have fr : ∀ q k, ¬ sqC q k → am_up (am_up I 135 W.length (am_i (10 : Nat))) 64 97 (am_i (W.length + 1 : Nat)) q k = I q k := fun q k e => by unfold sqC at e; rw [am_up_o (by omega), am_up_o (by omega)]
    have h3 := hS.2.2.1
    have u7 : am_up I 135 W.length (am_i 10) 64 97 = am_i W.length := by rw [am_up_o (by omega)]; exact h3
    refine ⟨_, fun d => ?_, by show yS _ _ _ _ _ _ _ _ (C ++ []) _; rw [List.append_nil]; exact yS_q h0 ps fr (by show C.length + (W.length + 1) + 1 + z ≤ p; omega) (by rw [nbW_c, if_neg (by omega), hnb]; omega) (by show b ≤ W.length + 1; omega), yN_q fr⟩
    rw [sg_X12_qGoesOnTest_87]
    simp (disch := first | assumption | omega) only [rM hm, ly_csm, ly_cam, ly_cf, ly_kd, ly_ln, ↓Bool.cond_decide, cond_true, cond_false, ↓bI_p, ↓bV_p, ↓bL_p, bIJ_s, bVJ_s, bLJ_s, ↓am_let_s, Nat.blt, Nat.ble, Bool.and_true, Bool.true_and, Bool.and_self, Int.cast_ofNat_Int, am_i_add, am_i_sub, am_i_mul, am_ok_i, am_i_cl, n_lt, n_le, n_eq, n_lt0, n_le0, n_0lt, n_0le, n_eq0, ne_eq, ↓reduceIte, not_true_eq_false, not_false_eq_true, and_true, true_and, and_false, false_and, eq_T, eq_F, lt_T, lt_F, le_T, le_F, qn_T, qn_F, and_F, b01_T, b01_F, e_isIn, Int32.toInt_toInt64, am_i_toInt, am_l_toInt, Int.toNat_natCast, Int.reduceToNat, Int.reduceAdd, Int.reduceSub, Int.reduceMul, Int.reduceNeg, Nat.reduceAdd, Nat.reduceMul, Nat.add_zero, Nat.mul_zero, Nat.zero_add, am_zb0, am_zb1, o3, h3, u7, am_i_s]
  | w :: ops, C, I, hops, h, hb, hl => by
    have w10 := hops w List.mem_cons_self
    subst w10
    have h' : yS T n so b z p o (10 :: (ops ++ W)) C I := h
    have ll : (ops ++ W).length = ops.length + W.length := List.length_append
    have hl' : C.length + ((ops ++ W).length + 1) + 2 + z ≤ p := hl
    have lc : (C ++ [((10 : Nat) : Int)]).length = C.length + 1 := by rw [List.length_append]; rfl
    have hnb := h'.2.2.2.2.2.1
    rw [nbW_c, if_neg (by omega)] at hnb
    obtain ⟨I1, a1, a2, a3⟩ := e_qDrops (J := J) hm h'.2.2.1
    have y1 : yS T n so b z p o (ops ++ W) (C ++ [((10 : Nat) : Int)]) I1 := yS_q h' a2 a3 (by omega) (by omega) (by omega)
    obtain ⟨I2, b1, b2, b3⟩ := e_t10 hm hW ops (C ++ [((10 : Nat) : Int)]) I1 (fun x hx => hops x (List.mem_cons_of_mem _ hx)) y1 hb (by omega)
    refine ⟨I2, fun d => ?_, by unfold cI; rw [List.map_cons, List.append_cons]; exact b2, yN_t (yN_q a3) b3⟩
    rw [← b1 d, sg_X12_qGoesOnTest_87]
    have t1 : ∀ d, am_E (d + 1) 261 0 [(0, .ref 64), (1, .int (am_i 10))] [] (I, J, R, 138) = some (some (.int (am_i 1)), (I, J, R, 138)) := on_t (v := 10) hm h'.2.2.1 (by omega)
    simp (disch := first | assumption | omega) only [rM hm, ly_csm, ly_cam, ly_cf, ly_kd, ly_ln, ↓Bool.cond_decide, cond_true, cond_false, ↓bI_p, ↓bV_p, ↓bL_p, bIJ_s, bVJ_s, bLJ_s, ↓am_let_s, Nat.blt, Nat.ble, Bool.and_true, Bool.true_and, Bool.and_self, Int.cast_ofNat_Int, am_i_add, am_i_sub, am_i_mul, am_ok_i, am_i_cl, n_lt, n_le, n_eq, n_lt0, n_le0, n_0lt, n_0le, n_eq0, ne_eq, ↓reduceIte, not_true_eq_false, not_false_eq_true, and_true, true_and, and_false, false_and, eq_T, eq_F, lt_T, lt_F, le_T, le_F, qn_T, qn_F, and_F, b01_T, b01_F, e_isIn, Int32.toInt_toInt64, am_i_toInt, am_l_toInt, Int.toNat_natCast, Int.reduceToNat, Int.reduceAdd, Int.reduceSub, Int.reduceMul, Int.reduceNeg, Nat.reduceAdd, Nat.reduceMul, Nat.add_zero, Nat.mul_zero, Nat.zero_add, am_zb0, am_zb1, t1, a1]
theorem e_t11 (hm : st_Rm R) (hW : ∀ w, W.head? = some w → w ≠ 10 ∧ w ≠ 11) : ∀ (ops : List Nat) (C : List Int) (I : tI), (∀ w ∈ ops, w = 10 ∨ w = 11) → yS T n so b z p o (ops ++ W) C I → b ≤ W.length → C.length + (ops ++ W).length + 2 + z ≤ p → ∃ I', (∀ d, am_E (d + 3) 277 137 [(0, .ref 64)] [] (I, J, R, 138) = some (some (.int (am_i 1)), (I', J, R, 138))) ∧ yS T n so b z p o (11 :: W) (C ++ cI ops) I' ∧ yN I I'
  | [], C, I, _, h, hb, hl => by
    have h' : yS T n so b z p o W C I := h
    have h0 : yS T n so b z p o W C I := h
    have hl' : C.length + W.length + 2 + z ≤ p := hl
    obtain ⟨hT, hR, hS, hp, hl0, hnb, hb0⟩ := h'
    have n16 := hT.1
    have o3 : ∀ d, am_E (d + 1) 261 0 [(0, .ref 64), (1, .int (am_i 10))] [] (I, J, R, 138) = some (some (.int (am_i 0)), (I, J, R, 138)) := on_f (v := 10) hm hS (by omega) (fun c => (hW 10 c).1 rfl)
    have o4 : ∀ d, am_E (d + 1) 261 0 [(0, .ref 64), (1, .int (am_i 11))] [] (I, J, R, 138) = some (some (.int (am_i 0)), (I, J, R, 138)) := on_f (v := 11) hm hS (by omega) (fun c => (hW 11 c).2 rfl)
    have ps := push_s (w := 11) hS (by omega) (by omega)
    have fr : ∀ q k, ¬ sqC q k → am_up (am_up I 135 W.length (am_i (11 : Nat))) 64 97 (am_i (W.length + 1 : Nat)) q k = I q k := fun q k e => by unfold sqC at e; rw [am_up_o (by omega), am_up_o (by omega)]
    have h3 := hS.2.2.1
    have u7 : am_up I 135 W.length (am_i 11) 64 97 = am_i W.length := by rw [am_up_o (by omega)]; exact h3
    refine ⟨_, fun d => ?_, by show yS _ _ _ _ _ _ _ _ (C ++ []) _; rw [List.append_nil]; exact yS_q h0 ps fr (by show C.length + (W.length + 1) + 1 + z ≤ p; omega) (by rw [nbW_c, if_neg (by omega), hnb]; omega) (by show b ≤ W.length + 1; omega), yN_q fr⟩
    rw [sg_X12_qGoesOnTest_137]
    simp (disch := first | assumption | omega) only [rM hm, ly_csm, ly_cam, ly_cf, ly_kd, ly_ln, ↓Bool.cond_decide, cond_true, cond_false, ↓bI_p, ↓bV_p, ↓bL_p, bIJ_s, bVJ_s, bLJ_s, ↓am_let_s, Nat.blt, Nat.ble, Bool.and_true, Bool.true_and, Bool.and_self, Int.cast_ofNat_Int, am_i_add, am_i_sub, am_i_mul, am_ok_i, am_i_cl, n_lt, n_le, n_eq, n_lt0, n_le0, n_0lt, n_0le, n_eq0, ne_eq, ↓reduceIte, not_true_eq_false, not_false_eq_true, and_true, true_and, and_false, false_and, eq_T, eq_F, lt_T, lt_F, le_T, le_F, qn_T, qn_F, and_F, b01_T, b01_F, e_isIn, Int32.toInt_toInt64, am_i_toInt, am_l_toInt, Int.toNat_natCast, Int.reduceToNat, Int.reduceAdd, Int.reduceSub, Int.reduceMul, Int.reduceNeg, Nat.reduceAdd, Nat.reduceMul, Nat.add_zero, Nat.mul_zero, Nat.zero_add, am_zb0, am_zb1, o3, o4, h3, u7, am_i_s]
  | w :: ops, C, I, hops, h, hb, hl => by
    have w1 := hops w List.mem_cons_self
    have h' : yS T n so b z p o (w :: (ops ++ W)) C I := h
    have ll : (ops ++ W).length = ops.length + W.length := List.length_append
    have hl' : C.length + ((ops ++ W).length + 1) + 2 + z ≤ p := hl
    have lc : (C ++ [(w : Int)]).length = C.length + 1 := by rw [List.length_append]; rfl
    have hnb := h'.2.2.2.2.2.1
    rw [nbW_c, if_neg (by omega)] at hnb
    obtain ⟨I1, a1, a2, a3⟩ := e_qDrops (J := J) hm h'.2.2.1
    have y1 : yS T n so b z p o (ops ++ W) (C ++ [(w : Int)]) I1 := yS_q h' a2 a3 (by omega) (by omega) (by omega)
    obtain ⟨I2, b1, b2, b3⟩ := e_t11 hm hW ops (C ++ [(w : Int)]) I1 (fun x hx => hops x (List.mem_cons_of_mem _ hx)) y1 hb (by omega)
    refine ⟨I2, fun d => ?_, by unfold cI; rw [List.map_cons, List.append_cons]; exact b2, yN_t (yN_q a3) b3⟩
    rw [← b1 d, sg_X12_qGoesOnTest_137]
    have hS := h'.2.2.1
    rcases w1 with rfl | rfl
    · have t1 : ∀ d, am_E (d + 1) 261 0 [(0, .ref 64), (1, .int (am_i 10))] [] (I, J, R, 138) = some (some (.int (am_i 1)), (I, J, R, 138)) := on_t (v := 10) hm hS (by omega)
      simp (disch := first | assumption | omega) only [rM hm, ly_csm, ly_cam, ly_cf, ly_kd, ly_ln, ↓Bool.cond_decide, cond_true, cond_false, ↓bI_p, ↓bV_p, ↓bL_p, bIJ_s, bVJ_s, bLJ_s, ↓am_let_s, Nat.blt, Nat.ble, Bool.and_true, Bool.true_and, Bool.and_self, Int.cast_ofNat_Int, am_i_add, am_i_sub, am_i_mul, am_ok_i, am_i_cl, n_lt, n_le, n_eq, n_lt0, n_le0, n_0lt, n_0le, n_eq0, ne_eq, ↓reduceIte, not_true_eq_false, not_false_eq_true, and_true, true_and, and_false, false_and, eq_T, eq_F, lt_T, lt_F, le_T, le_F, qn_T, qn_F, and_F, b01_T, b01_F, e_isIn, Int32.toInt_toInt64, am_i_toInt, am_l_toInt, Int.toNat_natCast, Int.reduceToNat, Int.reduceAdd, Int.reduceSub, Int.reduceMul, Int.reduceNeg, Nat.reduceAdd, Nat.reduceMul, Nat.add_zero, Nat.mul_zero, Nat.zero_add, am_zb0, am_zb1, t1, a1, sg_X12_qGoesOnTest_155]
    · have f1 : ∀ d, am_E (d + 1) 261 0 [(0, .ref 64), (1, .int (am_i 10))] [] (I, J, R, 138) = some (some (.int (am_i 0)), (I, J, R, 138)) := on_f (v := 10) hm hS (by omega) (hd_n (by decide))
      have t1 : ∀ d, am_E (d + 1) 261 0 [(0, .ref 64), (1, .int (am_i 11))] [] (I, J, R, 138) = some (some (.int (am_i 1)), (I, J, R, 138)) := on_t (v := 11) hm hS (by omega)
      simp (disch := first | assumption | omega) only [rM hm, ly_csm, ly_cam, ly_cf, ly_kd, ly_ln, ↓Bool.cond_decide, cond_true, cond_false, ↓bI_p, ↓bV_p, ↓bL_p, bIJ_s, bVJ_s, bLJ_s, ↓am_let_s, Nat.blt, Nat.ble, Bool.and_true, Bool.true_and, Bool.and_self, Int.cast_ofNat_Int, am_i_add, am_i_sub, am_i_mul, am_ok_i, am_i_cl, n_lt, n_le, n_eq, n_lt0, n_le0, n_0lt, n_0le, n_eq0, ne_eq, ↓reduceIte, not_true_eq_false, not_false_eq_true, and_true, true_and, and_false, false_and, eq_T, eq_F, lt_T, lt_F, le_T, le_F, qn_T, qn_F, and_F, b01_T, b01_F, e_isIn, Int32.toInt_toInt64, am_i_toInt, am_l_toInt, Int.toNat_natCast, Int.reduceToNat, Int.reduceAdd, Int.reduceSub, Int.reduceMul, Int.reduceNeg, Nat.reduceAdd, Nat.reduceMul, Nat.add_zero, Nat.mul_zero, Nat.zero_add, am_zb0, am_zb1, f1, t1, a1, sg_X12_qGoesOnTest_155]
theorem e_t25 (hm : st_Rm R) : ∀ (ops : List Nat) (C : List Int) (I : tI), (∀ w ∈ ops, w = 10 ∨ w = 11) → yS T n so 0 z p o (ops ++ 25 :: W) C I → ∃ I', (∀ d, am_E (d + 4) 277 33 [(0, .ref 64)] [] (I, J, R, 138) = am_E (d + 4) 277 0 [(0, .ref 64)] [] (I', J, R, 138)) ∧ yS T n so 0 z p (dnB W (C ++ cI ops) (o - 1)).2.2 (dnB W (C ++ cI ops) (o - 1)).1 (dnB W (C ++ cI ops) (o - 1)).2.1 I' ∧ yN I I'
  | [], C, I, _, h => by
    have h' : yS T n so 0 z p o (25 :: W) C I := h
    have hS := h'.2.2.1
    have hl : C.length + (W.length + 1) + 1 + z ≤ p := h'.2.2.2.2.1
    have hnb := h'.2.2.2.2.2.1
    rw [nbW_c, if_pos (by omega)] at hnb
    have h97 : I 64 97 = am_i (W.length + 1 : Nat) := hS.2.2.1
    have h98 := hS.2.2.2.1
    have n16 := h'.1.1
    have hp := h'.2.2.2.1
    have o6 := yS_o6 h'
    have t1 : ∀ d, am_E (d + 1) 261 0 [(0, .ref 64), (1, .int (am_i 25))] [] (I, J, R, 138) = some (some (.int (am_i 1)), (I, J, R, 138)) := on_t (v := 25) hm hS (by omega)
    have p3 := pop_s hS
    have fr : ∀ q k, ¬ sqC q k → am_up (am_up I 64 97 (am_i W.length)) 64 98 (am_i (o - 1 : Nat)) q k = I q k := fun q k e => by unfold sqC at e; rw [am_up_o (by omega), am_up_o (by omega)]
    have y1 : yS T n so 0 z p (o - 1) W C (am_up (am_up I 64 97 (am_i W.length)) 64 98 (am_i (o - 1 : Nat))) := yS_q h' p3 fr (by omega) (by omega) (by omega)
    obtain ⟨I2, b1, b2, b3⟩ := e_nots (J := J) hm W C (o - 1) _ y1
    have e1 : ((W.length + 1 : Nat) : Int) - 1 = (W.length : Int) := by omega
    have eo : (o : Int) - 1 = ((o - 1 : Nat) : Int) := by omega
    have u8 : am_up I 64 97 (am_i W.length) 64 98 = am_i o := by rw [am_up_o (by omega)]; exact h98
    refine ⟨I2, fun d => ?_, by show yS T n so 0 z p (dnB W (C ++ []) (o - 1)).2.2 (dnB W (C ++ []) (o - 1)).1 (dnB W (C ++ []) (o - 1)).2.1 I2; rw [List.append_nil]; exact b2, yN_t (yN_q fr) b3⟩
    conv => lhs; rw [sg_X12_qGoesOnTest_33]
    simp (disch := first | assumption | omega) only [rM hm, ly_csm, ly_cam, ly_cf, ly_kd, ly_ln, ↓Bool.cond_decide, cond_true, cond_false, ↓bI_p, ↓bV_p, ↓bL_p, bIJ_s, bVJ_s, bLJ_s, ↓am_let_s, Nat.blt, Nat.ble, Bool.and_true, Bool.true_and, Bool.and_self, Int.cast_ofNat_Int, am_i_add, am_i_sub, am_i_mul, am_ok_i, am_i_cl, n_lt, n_le, n_eq, n_lt0, n_le0, n_0lt, n_0le, n_eq0, ne_eq, ↓reduceIte, not_true_eq_false, not_false_eq_true, and_true, true_and, and_false, false_and, eq_T, eq_F, lt_T, lt_F, le_T, le_F, qn_T, qn_F, and_F, b01_T, b01_F, e_isIn, Int32.toInt_toInt64, am_i_toInt, am_l_toInt, Int.toNat_natCast, Int.reduceToNat, Int.reduceAdd, Int.reduceSub, Int.reduceMul, Int.reduceNeg, Nat.reduceAdd, Nat.reduceMul, Nat.add_zero, Nat.mul_zero, Nat.zero_add, am_zb0, am_zb1, t1, h97, e1, u8, eo, b1]
  | w :: ops, C, I, hops, h => by
    have w1 := hops w List.mem_cons_self
    have h' : yS T n so 0 z p o (w :: (ops ++ 25 :: W)) C I := h
    have hl : C.length + ((ops ++ 25 :: W).length + 1) + 1 + z ≤ p := h'.2.2.2.2.1
    have lc : (C ++ [(w : Int)]).length = C.length + 1 := by rw [List.length_append]; rfl
    have hnb := h'.2.2.2.2.2.1
    rw [nbW_c, if_neg (by omega)] at hnb
    obtain ⟨I1, a1, a2, a3⟩ := e_qDrops (J := J) hm h'.2.2.1
    have y1 : yS T n so 0 z p o (ops ++ 25 :: W) (C ++ [(w : Int)]) I1 := yS_q h' a2 a3 (by omega) (by omega) (by omega)
    obtain ⟨I2, b1, b2, b3⟩ := e_t25 hm ops (C ++ [(w : Int)]) I1 (fun x hx => hops x (List.mem_cons_of_mem _ hx)) y1
    have ec : (C ++ [(w : Int)]) ++ cI ops = C ++ cI (w :: ops) := by unfold cI; rw [List.map_cons, List.append_assoc]; rfl
    rw [ec] at b2
    refine ⟨I2, fun d => ?_, b2, yN_t (yN_q a3) b3⟩
    rw [← b1 d, sg_X12_qGoesOnTest_33]
    have f1 : ∀ d, am_E (d + 1) 261 0 [(0, .ref 64), (1, .int (am_i 25))] [] (I, J, R, 138) = some (some (.int (am_i 0)), (I, J, R, 138)) := on_f (v := 25) hm h'.2.2.1 (by omega) (hd_n (by omega))
    simp (disch := first | assumption | omega) only [rM hm, ly_csm, ly_cam, ly_cf, ly_kd, ly_ln, ↓Bool.cond_decide, cond_true, cond_false, ↓bI_p, ↓bV_p, ↓bL_p, bIJ_s, bVJ_s, bLJ_s, ↓am_let_s, Nat.blt, Nat.ble, Bool.and_true, Bool.true_and, Bool.and_self, Int.cast_ofNat_Int, am_i_add, am_i_sub, am_i_mul, am_ok_i, am_i_cl, n_lt, n_le, n_eq, n_lt0, n_le0, n_0lt, n_0le, n_eq0, ne_eq, ↓reduceIte, not_true_eq_false, not_false_eq_true, and_true, true_and, and_false, false_and, eq_T, eq_F, lt_T, lt_F, le_T, le_F, qn_T, qn_F, and_F, b01_T, b01_F, e_isIn, Int32.toInt_toInt64, am_i_toInt, am_l_toInt, Int.toNat_natCast, Int.reduceToNat, Int.reduceAdd, Int.reduceSub, Int.reduceMul, Int.reduceNeg, Nat.reduceAdd, Nat.reduceMul, Nat.add_zero, Nat.mul_zero, Nat.zero_add, am_zb0, am_zb1, f1, a1]
/-- no closing square, or none is open -/
theorem e_t76 (hm : st_Rm R) (h : yS T n so b z p o W C I) (hn : ¬ (tSg T n p = (93 : Nat) ∧ 25 ∈ W)) : ∀ d, am_E (d + 4) 277 0 [(0, .ref 64)] [] (I, J, R, 138) = am_E (d + 4) 277 76 [(0, .ref 64)] [] (atP T n p I, J, R, 138) := fun d => by
  have ha := yS_a h
  obtain ⟨hT, hR, hS, hp, hl, hnb, hb⟩ := h
  have h5 := hR.2.1
  have lk := fun d => e_look (d := d) (J := J) hm hT hp hR
  have tb := tC_b (T := T) (n := n) (p := p) (fun k hk => (hT.2.1 k hk).1)
  have sq := e_sq (J := J) hm ha.2.2.1
  rw [sg_X12_qGoesOnTest_0]
  by_cases g : tSg T n p = (93 : Nat)
  · have qc : tC T n p = 93 := (tC_S (T := T) (n := n) (p := p) (c := 93) (by decide) (by decide)).mpr g
    have k1 : ¬ 25 ∈ W := fun c => hn ⟨g, c⟩
    simp (disch := first | assumption | omega) only [rM hm, ly_csm, ly_cam, ly_cf, ly_kd, ly_ln, ↓Bool.cond_decide, cond_true, cond_false, ↓bI_p, ↓bV_p, ↓bL_p, bIJ_s, bVJ_s, bLJ_s, ↓am_let_s, Nat.blt, Nat.ble, Bool.and_true, Bool.true_and, Bool.and_self, Int.cast_ofNat_Int, am_i_add, am_i_sub, am_i_mul, am_ok_i, am_i_cl, n_lt, n_le, n_eq, n_lt0, n_le0, n_0lt, n_0le, n_eq0, ne_eq, ↓reduceIte, not_true_eq_false, not_false_eq_true, and_true, true_and, and_false, false_and, eq_T, eq_F, lt_T, lt_F, le_T, le_F, qn_T, qn_F, and_F, b01_T, b01_F, e_isIn, Int32.toInt_toInt64, am_i_toInt, am_l_toInt, Int.toNat_natCast, Int.reduceToNat, Int.reduceAdd, Int.reduceSub, Int.reduceMul, Int.reduceNeg, Nat.reduceAdd, Nat.reduceMul, Nat.add_zero, Nat.mul_zero, Nat.zero_add, am_zb0, am_zb1, h5, lk, qc, sq, b01_f k1]
  · have qn : ¬ tC T n p = 93 := fun c => g ((tC_S (T := T) (n := n) (p := p) (c := 93) (by decide) (by decide)).mp c)
    simp (disch := first | assumption | omega) only [rM hm, ly_csm, ly_cam, ly_cf, ly_kd, ly_ln, ↓Bool.cond_decide, cond_true, cond_false, ↓bI_p, ↓bV_p, ↓bL_p, bIJ_s, bVJ_s, bLJ_s, ↓am_let_s, Nat.blt, Nat.ble, Bool.and_true, Bool.true_and, Bool.and_self, Int.cast_ofNat_Int, am_i_add, am_i_sub, am_i_mul, am_ok_i, am_i_cl, n_lt, n_le, n_eq, n_lt0, n_le0, n_0lt, n_0le, n_eq0, ne_eq, ↓reduceIte, not_true_eq_false, not_false_eq_true, and_true, true_and, and_false, false_and, eq_T, eq_F, lt_T, lt_F, le_T, le_F, qn_T, qn_F, and_F, b01_T, b01_F, e_isIn, Int32.toInt_toInt64, am_i_toInt, am_l_toInt, Int.toNat_natCast, Int.reduceToNat, Int.reduceAdd, Int.reduceSub, Int.reduceMul, Int.reduceNeg, Nat.reduceAdd, Nat.reduceMul, Nat.add_zero, Nat.mul_zero, Nat.zero_add, am_zb0, am_zb1, h5, lk]
theorem wd_ns {w c : Nat} (h : tW T n p = w) : ¬ tSg T n p = c := fun e => by
  have := tW_1 h
  have := tSg_3 e
  omega
theorem tk_t (hm : st_Rm R) (h : yS T n so b z p o W C I) {q w : Nat} (hq : isQ q = true) (hw : wdQ q = w) (g : tW T n p = w) : ∃ I', am_E (d + 3) 172 0 [(0, .ref 64), (1, .ref q)] [] (atP T n p I, J, R, 138) = some (some (.int (am_i 1)), (I', J, R, 138)) ∧ yS T n so b z (tE T n p) o W C I' ∧ yN I I' := by
  subst hw
  have ha := yS_a h
  have hp := h.2.2.2.1
  have tb := tE_wd g hp
  obtain ⟨I1, t1, t2, t3, t4⟩ := m_takes (d := d) (J := J) hm ha.1 hp ha.2.1 hq
  have fr : ∀ q k, ¬ mlC q k → I1 q k = atP T n p I q k := fun q k e => t4 q k (by unfold mlC at e; omega)
  rw [b01_t g] at t1
  exact ⟨I1, t1, yS_m ha (t2 g) fr (by omega) tb.2, yN_t yN_a (yN_m fr)⟩
theorem tk_f (hm : st_Rm R) (h : yS T n so b z p o W C I) {q w : Nat} (hq : isQ q = true) (hw : wdQ q = w) (g : ¬ tW T n p = w) : ∀ d, am_E (d + 3) 172 0 [(0, .ref 64), (1, .ref q)] [] (atP T n p I, J, R, 138) = some (some (.int (am_i 0)), (atP T n p I, J, R, 138)) := fun d => by
  subst hw
  have ha := yS_a h
  obtain ⟨I1, t1, -, t3, -⟩ := m_takes (d := d) (J := J) hm ha.1 h.2.2.2.1 ha.2.1 hq
  have e1 := t3 g
  rw [atP_a] at e1
  subst e1
  rw [b01_f g] at t1
  exact t1
/-- and, or -/
theorem e_tAnd (hm : st_Rm R) {ops : List Nat} (h : yS T n so b z p o (ops ++ W) C I) (hW : ∀ w, W.head? = some w → w ≠ 10) (ho : ∀ w ∈ ops, w = 10) (hb : b ≤ W.length) (g : tW T n p = (21 : Nat)) : ∃ I', am_E (d + 4) 277 0 [(0, .ref 64)] [] (I, J, R, 138) = some (some (.int (am_i 1)), (I', J, R, 138)) ∧ yS T n so b z (tE T n p) o (10 :: W) (C ++ cI ops) I' ∧ yN I I' := by
  have hp := h.2.2.2.1
  have hl := h.2.2.2.2.1
  have tb := tE_wd g hp
  have st := e_t76 (J := J) hm h (fun c => wd_ns g c.1)
  obtain ⟨I1, t1, t2, t3⟩ := tk_t (d := d) (J := J) hm h (q := 118) (w := 21) (by decide) (by decide) g
  obtain ⟨I2, b1, b2, b3⟩ := e_t10 (J := J) hm hW ops C I1 ho t2 hb (by omega)
  refine ⟨I2, ?_, b2, yN_t t3 b3⟩
  rw [st, sg_X12_qGoesOnTest_76]
  simp (disch := first | assumption | omega) only [rM hm, ly_csm, ly_cam, ly_cf, ly_kd, ly_ln, ↓Bool.cond_decide, cond_true, cond_false, ↓bI_p, ↓bV_p, ↓bL_p, bIJ_s, bVJ_s, bLJ_s, ↓am_let_s, Nat.blt, Nat.ble, Bool.and_true, Bool.true_and, Bool.and_self, Int.cast_ofNat_Int, am_i_add, am_i_sub, am_i_mul, am_ok_i, am_i_cl, n_lt, n_le, n_eq, n_lt0, n_le0, n_0lt, n_0le, n_eq0, ne_eq, ↓reduceIte, not_true_eq_false, not_false_eq_true, and_true, true_and, and_false, false_and, eq_T, eq_F, lt_T, lt_F, le_T, le_F, qn_T, qn_F, and_F, b01_T, b01_F, e_isIn, Int32.toInt_toInt64, am_i_toInt, am_l_toInt, Int.toNat_natCast, Int.reduceToNat, Int.reduceAdd, Int.reduceSub, Int.reduceMul, Int.reduceNeg, Nat.reduceAdd, Nat.reduceMul, Nat.add_zero, Nat.mul_zero, Nat.zero_add, am_zb0, am_zb1, t1, b1]
theorem e_tOr (hm : st_Rm R) {ops : List Nat} (h : yS T n so b z p o (ops ++ W) C I) (hW : ∀ w, W.head? = some w → w ≠ 10 ∧ w ≠ 11) (ho : ∀ w ∈ ops, w = 10 ∨ w = 11) (hb : b ≤ W.length) (g : tW T n p = (20 : Nat)) : ∃ I', am_E (d + 4) 277 0 [(0, .ref 64)] [] (I, J, R, 138) = some (some (.int (am_i 1)), (I', J, R, 138)) ∧ yS T n so b z (tE T n p) o (11 :: W) (C ++ cI ops) I' ∧ yN I I' := by
  have hp := h.2.2.2.1
  have hl := h.2.2.2.2.1
  have tb := tE_wd g hp
  have st := e_t76 (J := J) hm h (fun c => wd_ns g c.1)
  have f1 := tk_f (J := J) hm h (q := 118) (w := 21) (by decide) (by decide) (by omega)
  obtain ⟨I1, t1, t2, t3⟩ := tk_t (d := d) (J := J) hm h (q := 119) (w := 20) (by decide) (by decide) g
  obtain ⟨I2, b1, b2, b3⟩ := e_t11 (J := J) hm hW ops C I1 ho t2 hb (by omega)
  refine ⟨I2, ?_, b2, yN_t t3 b3⟩
  rw [st, sg_X12_qGoesOnTest_76]
  simp (disch := first | assumption | omega) only [rM hm, ly_csm, ly_cam, ly_cf, ly_kd, ly_ln, ↓Bool.cond_decide, cond_true, cond_false, ↓bI_p, ↓bV_p, ↓bL_p, bIJ_s, bVJ_s, bLJ_s, ↓am_let_s, Nat.blt, Nat.ble, Bool.and_true, Bool.true_and, Bool.and_self, Int.cast_ofNat_Int, am_i_add, am_i_sub, am_i_mul, am_ok_i, am_i_cl, n_lt, n_le, n_eq, n_lt0, n_le0, n_0lt, n_0le, n_eq0, ne_eq, ↓reduceIte, not_true_eq_false, not_false_eq_true, and_true, true_and, and_false, false_and, eq_T, eq_F, lt_T, lt_F, le_T, le_F, qn_T, qn_F, and_F, b01_T, b01_F, e_isIn, Int32.toInt_toInt64, am_i_toInt, am_l_toInt, Int.toNat_natCast, Int.reduceToNat, Int.reduceAdd, Int.reduceSub, Int.reduceMul, Int.reduceNeg, Nat.reduceAdd, Nat.reduceMul, Nat.add_zero, Nat.mul_zero, Nat.zero_add, am_zb0, am_zb1, f1, t1, b1]
theorem e_tEnd (hm : st_Rm R) (h : yS T n so b z p o W C I) (n21 : ¬ tW T n p = (21 : Nat)) (n20 : ¬ tW T n p = (20 : Nat)) (hs : ¬ 25 ∈ W) : ∀ d, am_E (d + 4) 277 0 [(0, .ref 64)] [] (I, J, R, 138) = some (some (.int (am_i 0)), (atP T n p I, J, R, 138)) := fun d => by
  have st := e_t76 (J := J) hm h (fun c => hs c.2)
  have f1 := tk_f (J := J) hm h (q := 118) (w := 21) (by decide) (by decide) n21
  have f2 := tk_f (J := J) hm h (q := 119) (w := 20) (by decide) (by decide) n20
  have ha := yS_a h
  have h5 := ha.2.1.2.1
  have sq := e_sq (J := J) hm ha.2.2.1
  rw [st, sg_X12_qGoesOnTest_76]
  simp (disch := first | assumption | omega) only [rM hm, ly_csm, ly_cam, ly_cf, ly_kd, ly_ln, ↓Bool.cond_decide, cond_true, cond_false, ↓bI_p, ↓bV_p, ↓bL_p, bIJ_s, bVJ_s, bLJ_s, ↓am_let_s, Nat.blt, Nat.ble, Bool.and_true, Bool.true_and, Bool.and_self, Int.cast_ofNat_Int, am_i_add, am_i_sub, am_i_mul, am_ok_i, am_i_cl, n_lt, n_le, n_eq, n_lt0, n_le0, n_0lt, n_0le, n_eq0, ne_eq, ↓reduceIte, not_true_eq_false, not_false_eq_true, and_true, true_and, and_false, false_and, eq_T, eq_F, lt_T, lt_F, le_T, le_F, qn_T, qn_F, and_F, b01_T, b01_F, e_isIn, Int32.toInt_toInt64, am_i_toInt, am_l_toInt, Int.toNat_natCast, Int.reduceToNat, Int.reduceAdd, Int.reduceSub, Int.reduceMul, Int.reduceNeg, Nat.reduceAdd, Nat.reduceMul, Nat.add_zero, Nat.mul_zero, Nat.zero_add, am_zb0, am_zb1, f1, f2, h5, sq, b01_f hs, sg_X12_qGoesOnTest_208]
theorem e_tBad (hm : st_Rm R) (h : yS T n so b z p o W C I) (n21 : ¬ tW T n p = (21 : Nat)) (n20 : ¬ tW T n p = (20 : Nat)) (n93 : ¬ tSg T n p = (93 : Nat)) (hs : 25 ∈ W) : ∃ I', (∀ d, am_E (d + 4) 277 0 [(0, .ref 64)] [] (I, J, R, 138) = some (some (.int (am_i 0)), (I', J, R, 138))) ∧ yE T n so b z 1 (tAt T n p) I' ∧ yN I I' := by
  have st := e_t76 (J := J) hm h (fun c => n93 c.1)
  have f1 := tk_f (J := J) hm h (q := 118) (w := 21) (by decide) (by decide) n21
  have f2 := tk_f (J := J) hm h (q := 119) (w := 20) (by decide) (by decide) n20
  have ha := yS_a h
  have h5 := ha.2.1.2.1
  have sq := e_sq (J := J) hm ha.2.2.1
  have a2 : atP T n p I 64 2 = am_i (tAt T n p) := atP_2
  have fl := fun d => m_fail (d := d) (J := J) (R := R) (I := atP T n p I) (v := am_i 1) (w := am_i (tAt T n p)) hm h5
  have fr : ∀ q k, ¬ mlC q k → am_up (am_up (atP T n p I) 64 5 (am_i 1)) 64 6 (am_i (tAt T n p)) q k = atP T n p I q k := fun q k e => by unfold mlC at e; rw [am_up_o (by omega), am_up_o (by omega)]
  refine ⟨_, fun d => ?_, yE_m ha (by omega) (by omega) (by rw [am_up_o (by omega), am_up_e]; rfl) am_up_e fr, yN_t yN_a (yN_m fr)⟩
  rw [st, sg_X12_qGoesOnTest_76]
  simp (disch := first | assumption | omega) only [rM hm, ly_csm, ly_cam, ly_cf, ly_kd, ly_ln, ↓Bool.cond_decide, cond_true, cond_false, ↓bI_p, ↓bV_p, ↓bL_p, bIJ_s, bVJ_s, bLJ_s, ↓am_let_s, Nat.blt, Nat.ble, Bool.and_true, Bool.true_and, Bool.and_self, Int.cast_ofNat_Int, am_i_add, am_i_sub, am_i_mul, am_ok_i, am_i_cl, n_lt, n_le, n_eq, n_lt0, n_le0, n_0lt, n_0le, n_eq0, ne_eq, ↓reduceIte, not_true_eq_false, not_false_eq_true, and_true, true_and, and_false, false_and, eq_T, eq_F, lt_T, lt_F, le_T, le_F, qn_T, qn_F, and_F, b01_T, b01_F, e_isIn, Int32.toInt_toInt64, am_i_toInt, am_l_toInt, Int.toNat_natCast, Int.reduceToNat, Int.reduceAdd, Int.reduceSub, Int.reduceMul, Int.reduceNeg, Nat.reduceAdd, Nat.reduceMul, Nat.add_zero, Nat.mul_zero, Nat.zero_add, am_zb0, am_zb1, f1, f2, h5, sq, b01_t hs, a2, fl, sg_X12_qGoesOnTest_208]
theorem e_tCl (hm : st_Rm R) {ops : List Nat} (h : yS T n so 0 z p o (ops ++ 25 :: W) C I) (ho : ∀ w ∈ ops, w = 10 ∨ w = 11) (g : tSg T n p = (93 : Nat)) : ∃ I', (∀ d, am_E (d + 4) 277 0 [(0, .ref 64)] [] (I, J, R, 138) = am_E (d + 4) 277 0 [(0, .ref 64)] [] (I', J, R, 138)) ∧ yS T n so 0 z (tE T n p) (dnB W (C ++ cI ops) (o - 1)).2.2 (dnB W (C ++ cI ops) (o - 1)).1 (dnB W (C ++ cI ops) (o - 1)).2.1 I' ∧ yN I I' := by
  have ha := yS_a h
  have h5 := h.2.1.2.1
  have n16 := h.1.1
  have hp := h.2.2.2.1
  have ab := tAt_b (T := T) hp
  have lk := fun d => e_look (d := d) (J := J) hm h.1 hp h.2.1
  have qc : tC T n p = 93 := (tC_S (T := T) (n := n) (p := p) (c := 93) (by decide) (by decide)).mpr g
  have sq := e_sq (J := J) hm ha.2.2.1
  have m25 : 25 ∈ ops ++ 25 :: W := List.mem_append.mpr (Or.inr List.mem_cons_self)
  obtain ⟨-, t2, t3, t4, -⟩ := ts_t (J := J) hm h (c := 93) (by decide) (by decide) (by decide) g
  have a2 : atP T n p I 64 2 = am_i (tAt T n p) := atP_2
  obtain ⟨I2, b1, b2, b3⟩ := e_t25 (J := J) hm ops C _ ho t2
  have eE : am_i (tAt T n p + 1 : Nat) = am_i (tE T n p) := by rw [t4]
  refine ⟨I2, fun d => ?_, b2, yN_t t3 b3⟩
  rw [← b1 d]
  conv => lhs; rw [sg_X12_qGoesOnTest_0]
  simp (disch := first | assumption | omega) only [rM hm, ly_csm, ly_cam, ly_cf, ly_kd, ly_ln, ↓Bool.cond_decide, cond_true, cond_false, ↓bI_p, ↓bV_p, ↓bL_p, bIJ_s, bVJ_s, bLJ_s, ↓am_let_s, Nat.blt, Nat.ble, Bool.and_true, Bool.true_and, Bool.and_self, Int.cast_ofNat_Int, am_i_add, am_i_sub, am_i_mul, am_ok_i, am_i_cl, n_lt, n_le, n_eq, n_lt0, n_le0, n_0lt, n_0le, n_eq0, ne_eq, ↓reduceIte, not_true_eq_false, not_false_eq_true, and_true, true_and, and_false, false_and, eq_T, eq_F, lt_T, lt_F, le_T, le_F, qn_T, qn_F, and_F, b01_T, b01_F, e_isIn, Int32.toInt_toInt64, am_i_toInt, am_l_toInt, Int.toNat_natCast, Int.reduceToNat, Int.reduceAdd, Int.reduceSub, Int.reduceMul, Int.reduceNeg, Nat.reduceAdd, Nat.reduceMul, Nat.add_zero, Nat.mul_zero, Nat.zero_add, am_zb0, am_zb1, h5, lk, qc, sq, b01_t m25, a2, am_i_s, eE]
end MT
