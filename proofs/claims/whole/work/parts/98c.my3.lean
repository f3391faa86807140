/-! ===== the yard goes on: a sign, a closing bracket, a comma, an end ===== -/
section MY3
variable {d : Nat} {J : tJ} {R : tR} {T : Nat → Nat} {n so b z p o : Nat} {W : List Nat} {C : List Int} {I I' I'' : tI}
theorem e_gMul (hm : st_Rm R) {v : Nat} {ops : List Nat} (h : yS T n so b z p o (ops ++ W) C I) (hW : ∀ w, W.head? = some w → w ≠ 3 ∧ w ≠ 4) (ho : ∀ w ∈ ops, w = 3 ∨ w = 4) (hb : b ≤ W.length) (g : (tSg T n p = (42 : Nat) ∧ v = 3) ∨ (tSg T n p = (47 : Nat) ∧ v = 4)) : ∃ I', (∀ d, am_E (d + 4) 271 0 [(0, .ref 64)] [] (I, J, R, 138) = some (some (.int (am_i 1)), (I', J, R, 138))) ∧ yS T n so b z (tE T n p) o (v :: W) (C ++ List.map (fun w : Nat => (w : Int)) ops) I' ∧ yN I I' := by
  have n16 := h.1.1
  have hp := h.2.2.2.1
  have hl := h.2.2.2.2.1
  have ab := tAt_b (T := T) hp
  have st := fun d => e_g122 (d := d) (J := J) hm h (fun c => by omega)
  rcases g with ⟨g, rfl⟩ | ⟨g, rfl⟩
  · obtain ⟨t1, t2, t3, t4, t5⟩ := ts_t (J := J) hm h (c := 42) (by decide) (by decide) (by decide) g
    have t1' : ∀ d, am_E (d + 2) 174 0 [(0, .ref 64), (1, .int (am_i 42))] [] (atP T n p I, J, R, 138) = some (some (.int (am_i 1)), (am_up (atP T n p I) 64 2 (am_i (tE T n p)), J, R, 138)) := t1
    have tb := tE_sg g hp
    obtain ⟨I2, b1, b2, b3⟩ := e_d34 (J := J) hm (v := 3) (by omega) hW ops C _ ho t2 hb (by omega)
    have b1' : ∀ d, am_E (d + 3) 271 162 [(0, .ref 64), (1, .int (am_i 3))] [] (am_up (atP T n p I) 64 2 (am_i (tE T n p)), J, R, 138) = some (some (.int (am_i 1)), (I2, J, R, 138)) := b1
    have u2 : am_up (atP T n p I) 64 2 (am_i (tE T n p)) 64 2 = am_i (tE T n p) := am_up_e
    have e1 : ((tE T n p : Nat) : Int) - 1 = (tAt T n p : Int) := by omega
    have u5 : am_up (atP T n p I) 64 2 (am_i (tE T n p)) 65 (tAt T n p) = am_i 42 := by rw [am_up_o (by omega), atP_o (by omega)]; exact t5
    refine ⟨I2, fun d => ?_, b2, yN_t t3 b3⟩
    rw [st, sg_X12_qGoesOn_122]
    simp (disch := first | assumption | omega) only [rM hm, ly_csm, ly_cam, ly_cf, ly_kd, ly_ln, ↓Bool.cond_decide, cond_true, cond_false, ↓bI_p, ↓bV_p, ↓bL_p, bIJ_s, bVJ_s, bLJ_s, ↓am_let_s, Nat.blt, Nat.ble, Bool.and_true, Bool.true_and, Bool.and_self, Int.cast_ofNat_Int, am_i_add, am_i_sub, am_i_mul, am_ok_i, am_i_cl, n_lt, n_le, n_eq, n_lt0, n_le0, n_0lt, n_0le, n_eq0, ne_eq, ↓reduceIte, not_true_eq_false, not_false_eq_true, and_true, true_and, and_false, false_and, eq_T, eq_F, lt_T, lt_F, le_T, le_F, qn_T, qn_F, and_F, b01_T, b01_F, e_isIn, Int32.toInt_toInt64, am_i_toInt, am_l_toInt, Int.toNat_natCast, Int.reduceToNat, Int.reduceAdd, Int.reduceSub, Int.reduceMul, Int.reduceNeg, Nat.reduceAdd, Nat.reduceMul, Nat.add_zero, Nat.mul_zero, Nat.zero_add, am_zb0, am_zb1, t1', sg_X12_qGoesOn_140, u2, e1, u5, b1']
  · obtain ⟨t1, t2, t3, t4, t5⟩ := ts_t (J := J) hm h (c := 47) (by decide) (by decide) (by decide) g
    have t1' : ∀ d, am_E (d + 2) 174 0 [(0, .ref 64), (1, .int (am_i 47))] [] (atP T n p I, J, R, 138) = some (some (.int (am_i 1)), (am_up (atP T n p I) 64 2 (am_i (tE T n p)), J, R, 138)) := t1
    have f1 : ∀ d, am_E (d + 2) 174 0 [(0, .ref 64), (1, .int (am_i 42))] [] (atP T n p I, J, R, 138) = some (some (.int (am_i 0)), (atP T n p I, J, R, 138)) := ts_f (J := J) hm h (c := 42) (by decide) (by decide) (by decide) (by omega)
    have tb := tE_sg g hp
    obtain ⟨I2, b1, b2, b3⟩ := e_d34 (J := J) hm (v := 4) (by omega) hW ops C _ ho t2 hb (by omega)
    have b1' : ∀ d, am_E (d + 3) 271 162 [(0, .ref 64), (1, .int (am_i 4))] [] (am_up (atP T n p I) 64 2 (am_i (tE T n p)), J, R, 138) = some (some (.int (am_i 1)), (I2, J, R, 138)) := b1
    have u2 : am_up (atP T n p I) 64 2 (am_i (tE T n p)) 64 2 = am_i (tE T n p) := am_up_e
    have e1 : ((tE T n p : Nat) : Int) - 1 = (tAt T n p : Int) := by omega
    have u5 : am_up (atP T n p I) 64 2 (am_i (tE T n p)) 65 (tAt T n p) = am_i 47 := by rw [am_up_o (by omega), atP_o (by omega)]; exact t5
    refine ⟨I2, fun d => ?_, b2, yN_t t3 b3⟩
    rw [st, sg_X12_qGoesOn_122]
    simp (disch := first | assumption | omega) only [rM hm, ly_csm, ly_cam, ly_cf, ly_kd, ly_ln, ↓Bool.cond_decide, cond_true, cond_false, ↓bI_p, ↓bV_p, ↓bL_p, bIJ_s, bVJ_s, bLJ_s, ↓am_let_s, Nat.blt, Nat.ble, Bool.and_true, Bool.true_and, Bool.and_self, Int.cast_ofNat_Int, am_i_add, am_i_sub, am_i_mul, am_ok_i, am_i_cl, n_lt, n_le, n_eq, n_lt0, n_le0, n_0lt, n_0le, n_eq0, ne_eq, ↓reduceIte, not_true_eq_false, not_false_eq_true, and_true, true_and, and_false, false_and, eq_T, eq_F, lt_T, lt_F, le_T, le_F, qn_T, qn_F, and_F, b01_T, b01_F, e_isIn, Int32.toInt_toInt64, am_i_toInt, am_l_toInt, Int.toNat_natCast, Int.reduceToNat, Int.reduceAdd, Int.reduceSub, Int.reduceMul, Int.reduceNeg, Nat.reduceAdd, Nat.reduceMul, Nat.add_zero, Nat.mul_zero, Nat.zero_add, am_zb0, am_zb1, f1, t1', sg_X12_qGoesOn_140, u2, e1, u5, b1']
theorem e_gAdd (hm : st_Rm R) {v : Nat} {ops : List Nat} (h : yS T n so b z p o (ops ++ W) C I) (hW : ∀ w, W.head? = some w → w ≠ 1 ∧ w ≠ 2 ∧ w ≠ 3 ∧ w ≠ 4) (ho : ∀ w ∈ ops, w = 1 ∨ w = 2 ∨ w = 3 ∨ w = 4) (hb : b ≤ W.length) (g : (tSg T n p = (43 : Nat) ∧ v = 1) ∨ (tSg T n p = (45 : Nat) ∧ v = 2)) : ∃ I', (∀ d, am_E (d + 4) 271 0 [(0, .ref 64)] [] (I, J, R, 138) = some (some (.int (am_i 1)), (I', J, R, 138))) ∧ yS T n so b z (tE T n p) o (v :: W) (C ++ List.map (fun w : Nat => (w : Int)) ops) I' ∧ yN I I' := by
  have n16 := h.1.1
  have hp := h.2.2.2.1
  have hl := h.2.2.2.2.1
  have ab := tAt_b (T := T) hp
  have st := fun d => e_g122 (d := d) (J := J) hm h (fun c => by omega)
  have f1 : ∀ d, am_E (d + 2) 174 0 [(0, .ref 64), (1, .int (am_i 42))] [] (atP T n p I, J, R, 138) = some (some (.int (am_i 0)), (atP T n p I, J, R, 138)) := ts_f (J := J) hm h (c := 42) (by decide) (by decide) (by decide) (by omega)
  have f2 : ∀ d, am_E (d + 2) 174 0 [(0, .ref 64), (1, .int (am_i 47))] [] (atP T n p I, J, R, 138) = some (some (.int (am_i 0)), (atP T n p I, J, R, 138)) := ts_f (J := J) hm h (c := 47) (by decide) (by decide) (by decide) (by omega)
  rcases g with ⟨g, rfl⟩ | ⟨g, rfl⟩
  · obtain ⟨t1, t2, t3, t4, t5⟩ := ts_t (J := J) hm h (c := 43) (by decide) (by decide) (by decide) g
    have t1' : ∀ d, am_E (d + 2) 174 0 [(0, .ref 64), (1, .int (am_i 43))] [] (atP T n p I, J, R, 138) = some (some (.int (am_i 1)), (am_up (atP T n p I) 64 2 (am_i (tE T n p)), J, R, 138)) := t1
    have tb := tE_sg g hp
    obtain ⟨I2, b1, b2, b3⟩ := e_d14 (J := J) hm (v := 1) (by omega) hW ops C _ ho t2 hb (by omega)
    have b1' : ∀ d, am_E (d + 3) 271 247 [(0, .ref 64), (1, .int (am_i 1))] [] (am_up (atP T n p I) 64 2 (am_i (tE T n p)), J, R, 138) = some (some (.int (am_i 1)), (I2, J, R, 138)) := b1
    have u2 : am_up (atP T n p I) 64 2 (am_i (tE T n p)) 64 2 = am_i (tE T n p) := am_up_e
    have e1 : ((tE T n p : Nat) : Int) - 1 = (tAt T n p : Int) := by omega
    have u5 : am_up (atP T n p I) 64 2 (am_i (tE T n p)) 65 (tAt T n p) = am_i 43 := by rw [am_up_o (by omega), atP_o (by omega)]; exact t5
    refine ⟨I2, fun d => ?_, b2, yN_t t3 b3⟩
    rw [st, sg_X12_qGoesOn_122]
    simp (disch := first | assumption | omega) only [rM hm, ly_csm, ly_cam, ly_cf, ly_kd, ly_ln, ↓Bool.cond_decide, cond_true, cond_false, ↓bI_p, ↓bV_p, ↓bL_p, bIJ_s, bVJ_s, bLJ_s, ↓am_let_s, Nat.blt, Nat.ble, Bool.and_true, Bool.true_and, Bool.and_self, Int.cast_ofNat_Int, am_i_add, am_i_sub, am_i_mul, am_ok_i, am_i_cl, n_lt, n_le, n_eq, n_lt0, n_le0, n_0lt, n_0le, n_eq0, ne_eq, ↓reduceIte, not_true_eq_false, not_false_eq_true, and_true, true_and, and_false, false_and, eq_T, eq_F, lt_T, lt_F, le_T, le_F, qn_T, qn_F, and_F, b01_T, b01_F, e_isIn, Int32.toInt_toInt64, am_i_toInt, am_l_toInt, Int.toNat_natCast, Int.reduceToNat, Int.reduceAdd, Int.reduceSub, Int.reduceMul, Int.reduceNeg, Nat.reduceAdd, Nat.reduceMul, Nat.add_zero, Nat.mul_zero, Nat.zero_add, am_zb0, am_zb1, f1, f2, t1', sg_X12_qGoesOn_225, u2, e1, u5, b1']
  · obtain ⟨t1, t2, t3, t4, t5⟩ := ts_t (J := J) hm h (c := 45) (by decide) (by decide) (by decide) g
    have t1' : ∀ d, am_E (d + 2) 174 0 [(0, .ref 64), (1, .int (am_i 45))] [] (atP T n p I, J, R, 138) = some (some (.int (am_i 1)), (am_up (atP T n p I) 64 2 (am_i (tE T n p)), J, R, 138)) := t1
    have f3 : ∀ d, am_E (d + 2) 174 0 [(0, .ref 64), (1, .int (am_i 43))] [] (atP T n p I, J, R, 138) = some (some (.int (am_i 0)), (atP T n p I, J, R, 138)) := ts_f (J := J) hm h (c := 43) (by decide) (by decide) (by decide) (by omega)
    have tb := tE_sg g hp
    obtain ⟨I2, b1, b2, b3⟩ := e_d14 (J := J) hm (v := 2) (by omega) hW ops C _ ho t2 hb (by omega)
    have b1' : ∀ d, am_E (d + 3) 271 247 [(0, .ref 64), (1, .int (am_i 2))] [] (am_up (atP T n p I) 64 2 (am_i (tE T n p)), J, R, 138) = some (some (.int (am_i 1)), (I2, J, R, 138)) := b1
    have u2 : am_up (atP T n p I) 64 2 (am_i (tE T n p)) 64 2 = am_i (tE T n p) := am_up_e
    have e1 : ((tE T n p : Nat) : Int) - 1 = (tAt T n p : Int) := by omega
    have u5 : am_up (atP T n p I) 64 2 (am_i (tE T n p)) 65 (tAt T n p) = am_i 45 := by rw [am_up_o (by omega), atP_o (by omega)]; exact t5
    refine ⟨I2, fun d => ?_, b2, yN_t t3 b3⟩
    rw [st, sg_X12_qGoesOn_122]
    simp (disch := first | assumption | omega) only [rM hm, ly_csm, ly_cam, ly_cf, ly_kd, ly_ln, ↓Bool.cond_decide, cond_true, cond_false, ↓bI_p, ↓bV_p, ↓bL_p, bIJ_s, bVJ_s, bLJ_s, ↓am_let_s, Nat.blt, Nat.ble, Bool.and_true, Bool.true_and, Bool.and_self, Int.cast_ofNat_Int, am_i_add, am_i_sub, am_i_mul, am_ok_i, am_i_cl, n_lt, n_le, n_eq, n_lt0, n_le0, n_0lt, n_0le, n_eq0, ne_eq, ↓reduceIte, not_true_eq_false, not_false_eq_true, and_true, true_and, and_false, false_and, eq_T, eq_F, lt_T, lt_F, le_T, le_F, qn_T, qn_F, and_F, b01_T, b01_F, e_isIn, Int32.toInt_toInt64, am_i_toInt, am_l_toInt, Int.toNat_natCast, Int.reduceToNat, Int.reduceAdd, Int.reduceSub, Int.reduceMul, Int.reduceNeg, Nat.reduceAdd, Nat.reduceMul, Nat.add_zero, Nat.mul_zero, Nat.zero_add, am_zb0, am_zb1, f1, f2, f3, t1', sg_X12_qGoesOn_225, u2, e1, u5, b1']
/-- none of the four signs -/
def nSg (T : Nat → Nat) (n p : Nat) : Prop := ¬ tSg T n p = (42 : Nat) ∧ ¬ tSg T n p = (47 : Nat) ∧ ¬ tSg T n p = (43 : Nat) ∧ ¬ tSg T n p = (45 : Nat)
theorem e_gEnd (hm : st_Rm R) (h : yS T n so b z p o W C I) (hn : nSg T n p) (hb : brF b W = -1) : ∀ d, am_E (d + 4) 271 0 [(0, .ref 64)] [] (I, J, R, 138) = some (some (.int (am_i 0)), (atP T n p I, J, R, 138)) := fun d => by
  have st := fun d => e_g122 (d := d) (J := J) hm h (fun c => by omega)
  have br := fun d => e_qBracket (d := d) (J := J) hm (yS_a h).2.2.1
  rw [hb] at br
  have f1 : ∀ d, am_E (d + 2) 174 0 [(0, .ref 64), (1, .int (am_i 42))] [] (atP T n p I, J, R, 138) = some (some (.int (am_i 0)), (atP T n p I, J, R, 138)) := ts_f (J := J) hm h (c := 42) (by decide) (by decide) (by decide) hn.1
  have f2 : ∀ d, am_E (d + 2) 174 0 [(0, .ref 64), (1, .int (am_i 47))] [] (atP T n p I, J, R, 138) = some (some (.int (am_i 0)), (atP T n p I, J, R, 138)) := ts_f (J := J) hm h (c := 47) (by decide) (by decide) (by decide) hn.2.1
  have f3 : ∀ d, am_E (d + 2) 174 0 [(0, .ref 64), (1, .int (am_i 43))] [] (atP T n p I, J, R, 138) = some (some (.int (am_i 0)), (atP T n p I, J, R, 138)) := ts_f (J := J) hm h (c := 43) (by decide) (by decide) (by decide) hn.2.2.1
  have f4 : ∀ d, am_E (d + 2) 174 0 [(0, .ref 64), (1, .int (am_i 45))] [] (atP T n p I, J, R, 138) = some (some (.int (am_i 0)), (atP T n p I, J, R, 138)) := ts_f (J := J) hm h (c := 45) (by decide) (by decide) (by decide) hn.2.2.2
  rw [st, sg_X12_qGoesOn_122]
  simp (disch := first | assumption | omega) only [rM hm, ly_csm, ly_cam, ly_cf, ly_kd, ly_ln, ↓Bool.cond_decide, cond_true, cond_false, ↓bI_p, ↓bV_p, ↓bL_p, bIJ_s, bVJ_s, bLJ_s, ↓am_let_s, Nat.blt, Nat.ble, Bool.and_true, Bool.true_and, Bool.and_self, Int.cast_ofNat_Int, am_i_add, am_i_sub, am_i_mul, am_ok_i, am_i_cl, n_lt, n_le, n_eq, n_lt0, n_le0, n_0lt, n_0le, n_eq0, ne_eq, ↓reduceIte, not_true_eq_false, not_false_eq_true, and_true, true_and, and_false, false_and, eq_T, eq_F, lt_T, lt_F, le_T, le_F, qn_T, qn_F, and_F, b01_T, b01_F, e_isIn, Int32.toInt_toInt64, am_i_toInt, am_l_toInt, Int.toNat_natCast, Int.reduceToNat, Int.reduceAdd, Int.reduceSub, Int.reduceMul, Int.reduceNeg, Nat.reduceAdd, Nat.reduceMul, Nat.add_zero, Nat.mul_zero, Nat.zero_add, am_zb0, am_zb1, f1, f2, f3, f4, br, sg_X12_qGoesOn_386]
theorem e_gBad (hm : st_Rm R) (h : yS T n so b z p o W C I) (hn : nSg T n p) (h41 : ¬ tSg T n p = (41 : Nat)) (hb : brF b W = 20 ∨ brF b W = 23 ∨ brF b W = 24) : ∃ I', (∀ d, am_E (d + 4) 271 0 [(0, .ref 64)] [] (I, J, R, 138) = some (some (.int (am_i 0)), (I', J, R, 138))) ∧ yE T n so b z 1 (tAt T n p) I' ∧ yN I I' := by
  have ha := yS_a h
  have st := fun d => e_g122 (d := d) (J := J) hm h (fun c => h41 c.1)
  have br := fun d => e_qBracket (d := d) (J := J) hm ha.2.2.1
  have f1 : ∀ d, am_E (d + 2) 174 0 [(0, .ref 64), (1, .int (am_i 42))] [] (atP T n p I, J, R, 138) = some (some (.int (am_i 0)), (atP T n p I, J, R, 138)) := ts_f (J := J) hm h (c := 42) (by decide) (by decide) (by decide) hn.1
  have f2 : ∀ d, am_E (d + 2) 174 0 [(0, .ref 64), (1, .int (am_i 47))] [] (atP T n p I, J, R, 138) = some (some (.int (am_i 0)), (atP T n p I, J, R, 138)) := ts_f (J := J) hm h (c := 47) (by decide) (by decide) (by decide) hn.2.1
  have f3 : ∀ d, am_E (d + 2) 174 0 [(0, .ref 64), (1, .int (am_i 43))] [] (atP T n p I, J, R, 138) = some (some (.int (am_i 0)), (atP T n p I, J, R, 138)) := ts_f (J := J) hm h (c := 43) (by decide) (by decide) (by decide) hn.2.2.1
  have f4 : ∀ d, am_E (d + 2) 174 0 [(0, .ref 64), (1, .int (am_i 45))] [] (atP T n p I, J, R, 138) = some (some (.int (am_i 0)), (atP T n p I, J, R, 138)) := ts_f (J := J) hm h (c := 45) (by decide) (by decide) (by decide) hn.2.2.2
  have h5 := ha.2.1.2.1
  have a2 : atP T n p I 64 2 = am_i (tAt T n p) := atP_2
  have fl := fun d => m_fail (d := d) (J := J) (R := R) (I := atP T n p I) (v := am_i 1) (w := am_i (tAt T n p)) hm h5
  have fr : ∀ q k, ¬ mlC q k → am_up (am_up (atP T n p I) 64 5 (am_i 1)) 64 6 (am_i (tAt T n p)) q k = atP T n p I q k := fun q k e => by unfold mlC at e; rw [am_up_o (by omega), am_up_o (by omega)]
  refine ⟨_, fun d => ?_, yE_m ha (by omega) (by omega) (by rw [am_up_o (by omega), am_up_e]; rfl) am_up_e fr, yN_t yN_a (yN_m fr)⟩
  rw [st, sg_X12_qGoesOn_122]
  rcases hb with c | c | c
  · rw [c] at br
    simp (disch := first | assumption | omega) only [rM hm, ly_csm, ly_cam, ly_cf, ly_kd, ly_ln, ↓Bool.cond_decide, cond_true, cond_false, ↓bI_p, ↓bV_p, ↓bL_p, bIJ_s, bVJ_s, bLJ_s, ↓am_let_s, Nat.blt, Nat.ble, Bool.and_true, Bool.true_and, Bool.and_self, Int.cast_ofNat_Int, am_i_add, am_i_sub, am_i_mul, am_ok_i, am_i_cl, n_lt, n_le, n_eq, n_lt0, n_le0, n_0lt, n_0le, n_eq0, ne_eq, ↓reduceIte, not_true_eq_false, not_false_eq_true, and_true, true_and, and_false, false_and, eq_T, eq_F, lt_T, lt_F, le_T, le_F, qn_T, qn_F, and_F, b01_T, b01_F, e_isIn, Int32.toInt_toInt64, am_i_toInt, am_l_toInt, Int.toNat_natCast, Int.reduceToNat, Int.reduceAdd, Int.reduceSub, Int.reduceMul, Int.reduceNeg, Nat.reduceAdd, Nat.reduceMul, Nat.add_zero, Nat.mul_zero, Nat.zero_add, am_zb0, am_zb1, f1, f2, f3, f4, br, h5, a2, fl, sg_X12_qGoesOn_386]
  · rw [c] at br
    simp (disch := first | assumption | omega) only [rM hm, ly_csm, ly_cam, ly_cf, ly_kd, ly_ln, ↓Bool.cond_decide, cond_true, cond_false, ↓bI_p, ↓bV_p, ↓bL_p, bIJ_s, bVJ_s, bLJ_s, ↓am_let_s, Nat.blt, Nat.ble, Bool.and_true, Bool.true_and, Bool.and_self, Int.cast_ofNat_Int, am_i_add, am_i_sub, am_i_mul, am_ok_i, am_i_cl, n_lt, n_le, n_eq, n_lt0, n_le0, n_0lt, n_0le, n_eq0, ne_eq, ↓reduceIte, not_true_eq_false, not_false_eq_true, and_true, true_and, and_false, false_and, eq_T, eq_F, lt_T, lt_F, le_T, le_F, qn_T, qn_F, and_F, b01_T, b01_F, e_isIn, Int32.toInt_toInt64, am_i_toInt, am_l_toInt, Int.toNat_natCast, Int.reduceToNat, Int.reduceAdd, Int.reduceSub, Int.reduceMul, Int.reduceNeg, Nat.reduceAdd, Nat.reduceMul, Nat.add_zero, Nat.mul_zero, Nat.zero_add, am_zb0, am_zb1, f1, f2, f3, f4, br, h5, a2, fl, sg_X12_qGoesOn_386]
  · rw [c] at br
    simp (disch := first | assumption | omega) only [rM hm, ly_csm, ly_cam, ly_cf, ly_kd, ly_ln, ↓Bool.cond_decide, cond_true, cond_false, ↓bI_p, ↓bV_p, ↓bL_p, bIJ_s, bVJ_s, bLJ_s, ↓am_let_s, Nat.blt, Nat.ble, Bool.and_true, Bool.true_and, Bool.and_self, Int.cast_ofNat_Int, am_i_add, am_i_sub, am_i_mul, am_ok_i, am_i_cl, n_lt, n_le, n_eq, n_lt0, n_le0, n_0lt, n_0le, n_eq0, ne_eq, ↓reduceIte, not_true_eq_false, not_false_eq_true, and_true, true_and, and_false, false_and, eq_T, eq_F, lt_T, lt_F, le_T, le_F, qn_T, qn_F, and_F, b01_T, b01_F, e_isIn, Int32.toInt_toInt64, am_i_toInt, am_l_toInt, Int.toNat_natCast, Int.reduceToNat, Int.reduceAdd, Int.reduceSub, Int.reduceMul, Int.reduceNeg, Nat.reduceAdd, Nat.reduceMul, Nat.add_zero, Nat.mul_zero, Nat.zero_add, am_zb0, am_zb1, f1, f2, f3, f4, br, h5, a2, fl, sg_X12_qGoesOn_386]
end MY3
