/-! ===== the yard: a closing bracket, a comma ===== -/
section MY4
variable {d : Nat} {J : tJ} {R : tR} {T : Nat → Nat} {n so b z p o : Nat} {W : List Nat} {C : List Int} {I I' I'' : tI}
theorem pop_s {w : Nat} (h : sS so o b (w :: W) C I) : sS so (o - 1) b W C (am_up (am_up I 64 97 (am_i W.length)) 64 98 (am_i (o - 1 : Nat))) := by
  obtain ⟨h1, h2, h3, h4, h5, h6, h7, h8, h9, h10, h11⟩ := h
  have h9' : C.length + (W.length + 1) ≤ 1600 := h9
  exact ⟨by rw [am_up_o (by omega), am_up_o (by omega)]; exact h1, by rw [am_up_o (by omega), am_up_o (by omega)]; exact h2, by rw [am_up_o (by omega), am_up_e], am_up_e, by rw [am_up_o (by omega), am_up_o (by omega)]; exact h5, fun k c hc => by rw [am_up_o (by omega), am_up_o (by omega)]; exact h6 k c hc, wtR_c h7.2 (fun k hk => by rw [am_up_o (by omega), am_up_o (by omega)]), fun x hx => h8 x (List.mem_cons_of_mem _ hx), by omega, h10, by omega⟩
theorem top_s {w w' : Nat} (h : sS so o b (w :: W) C I) (hw : w' ≤ 61) : sS so o b (w' :: W) C (am_up I 135 W.length (am_i w')) := by
  obtain ⟨h1, h2, h3, h4, h5, h6, h7, h8, h9, h10, h11⟩ := h
  exact ⟨by rw [am_up_o (by omega)]; exact h1, by rw [am_up_o (by omega)]; exact h2, by rw [am_up_o (by omega)]; exact h3, by rw [am_up_o (by omega)]; exact h4, by rw [am_up_o (by omega)]; exact h5, fun k c hc => by rw [am_up_o (by omega)]; exact h6 k c hc, ⟨am_up_e, wtR_c h7.2 (fun k hk => by rw [am_up_o (by omega)])⟩, fun x hx => by rcases List.mem_cons.mp hx with e | e; rw [e]; exact hw; exact h8 x (List.mem_cons_of_mem _ e), h9, h10, h11⟩
/-- the part has ended, without a code -/
theorem e_pEn0 (hm : st_Rm R) (h : yS T n so b z p o W C I) : ∃ I2, (∀ d, am_E (d + 3) 269 0 [(0, .ref 64)] [] (I, J, R, 138) = some (none, (I2, J, R, 138))) ∧ yS T n so b z p (enB b W C o).2.2 (enB b W C o).1 (enB b W C o).2.1 I2 ∧ yN I I2 := by
  have h' := h
  obtain ⟨hT, hR, hS, hp, hl0, hnb, hb⟩ := h'
  obtain ⟨I2, b1, b2, b3⟩ := e_ends (J := J) hm W C o I hS hR.2.1 (fun _ _ => rfl) (by have := nb60 (W := W); omega)
  obtain ⟨p1, p2, p3⟩ := enB_p W C o hnb hb
  exact ⟨I2, b1, yS_q h b2 b3 (by omega) p2 p3, yN_q b3⟩
/-- which code a closing bracket leaves -/
def clC (w : Nat) : List Int := if w = 23 then [5] else if w = 24 then [6] else []
theorem e_gCl (hm : st_Rm R) {w : Nat} {ops : List Nat} (h : yS T n so b z p o (ops ++ w :: W) C I) (ho : ∀ x ∈ ops, x < 12) (hw : w = 20 ∨ w = 23 ∨ w = 24) (hb : b ≤ W.length) (g : tSg T n p = (41 : Nat)) : ∃ I', (∀ d, am_E (d + 4) 271 0 [(0, .ref 64)] [] (I, J, R, 138) = am_E (d + 4) 271 0 [(0, .ref 64)] [] (I', J, R, 138)) ∧ yS T n so b z (tE T n p) (enB b W (C ++ List.map (fun w : Nat => (w : Int)) ops ++ clC w) (o - 1)).2.2 (enB b W (C ++ List.map (fun w : Nat => (w : Int)) ops ++ clC w) (o - 1)).1 (enB b W (C ++ List.map (fun w : Nat => (w : Int)) ops ++ clC w) (o - 1)).2.1 I' ∧ yN I I' := by
  have ho20 : ∀ x ∈ ops, x < 20 := fun x hx => by have := ho x hx; omega
  have br : brF b (ops ++ w :: W) = w := brF_o (by omega) hb ho20
  have n16 := h.1.1
  have hp := h.2.2.2.1
  have hl := h.2.2.2.2.1
  have hnb := h.2.2.2.2.2.1
  have ll : (ops ++ w :: W).length = ops.length + (W.length + 1) := List.length_append
  have lm : (List.map (fun w : Nat => (w : Int)) ops).length = ops.length := List.length_map _
  rw [nbW_a, nbW_0 ho, nbW_c, if_pos (by omega)] at hnb
  have st := fun d => e_g43 (d := d) (J := J) hm h g (by rw [br]; omega)
  obtain ⟨-, t2, t3, t4, -⟩ := ts_t (J := J) hm h (c := 41) (by decide) (by decide) (by decide) g
  have tb := tE_sg g hp
  obtain ⟨I2, d1, d2, d3⟩ := e_dropTo (J := J) (W := w :: W) hm ops C _ ho20 t2.2.2.1 (by show b ≤ W.length + 1; omega) (Or.inr ⟨w, W, rfl, by omega, by omega⟩)
  have lc : (C ++ List.map (fun w : Nat => (w : Int)) ops).length = C.length + ops.length := by rw [List.length_append, lm]
  have p3 := pop_s d2
  have fr3 : ∀ q k, ¬ sqC q k → am_up (am_up I2 64 97 (am_i W.length)) 64 98 (am_i (o - 1 : Nat)) q k = am_up (atP T n p I) 64 2 (am_i (tE T n p)) q k := fun q k e => by rw [am_up_o (by unfold sqC at e; omega), am_up_o (by unfold sqC at e; omega)]; exact d3 q k e
  have y3 : yS T n so b z (tE T n p) (o - 1) W (C ++ List.map (fun w : Nat => (w : Int)) ops) (am_up (am_up I2 64 97 (am_i W.length)) 64 98 (am_i (o - 1 : Nat))) := yS_q t2 p3 fr3 (by omega) (by omega) hb
  have a2 : atP T n p I 64 2 = am_i (tAt T n p) := atP_2
  have d97 : I2 64 97 = am_i (W.length + 1 : Nat) := d2.2.2.1
  have d98 : I2 64 98 = am_i o := d2.2.2.2.1
  have dw : I2 135 W.length = am_i w := d2.2.2.2.2.2.2.1.1
  have e1 : ((W.length + 1 : Nat) : Int) - 1 = (W.length : Int) := by omega
  have u98 : am_up I2 64 97 (am_i W.length) 64 98 = am_i o := by rw [am_up_o (by omega)]; exact d98
  have eo : (o : Int) - 1 = ((o - 1 : Nat) : Int) := by omega
  have v97 : am_up (am_up I2 64 97 (am_i W.length)) 64 98 (am_i (o - 1 : Nat)) 64 97 = am_i W.length := by rw [am_up_o (by omega), am_up_e]
  have vw : am_up (am_up I2 64 97 (am_i W.length)) 64 98 (am_i (o - 1 : Nat)) 135 W.length = am_i w := by rw [am_up_o (by omega), am_up_o (by omega)]; exact dw
  have eE : am_i ((tAt T n p : Int) + 1) = am_i (tE T n p) := by rw [t4]; rfl
  have d1' : ∀ d, am_E (d + 3) 265 0 [(0, .ref 64)] [] (am_up (atP T n p I) 64 2 (am_i (tE T n p)), J, R, 138) = some (none, (I2, J, R, 138)) := d1
  have hW16 : W.length < 1600 := by omega
  rcases hw with rfl | rfl | rfl
  · obtain ⟨I4, c1, c2, c3⟩ := e_pEn0 (J := J) hm y3
    have ec : C ++ List.map (fun w : Nat => (w : Int)) ops ++ clC 20 = C ++ List.map (fun w : Nat => (w : Int)) ops := by show _ ++ [] = _; rw [List.append_nil]
    rw [ec]
    refine ⟨I4, fun d => ?_, c2, yN_t t3 (yN_t (yN_q fr3) c3)⟩
    have vw' : am_up (am_up I2 64 97 (am_i W.length)) 64 98 (am_i (o - 1 : Nat)) 135 W.length = am_i 20 := vw
    rw [st, sg_X12_qGoesOn_43]
    simp (disch := first | assumption | omega) only [rM hm, ly_csm, ly_cam, ly_cf, ly_kd, ly_ln, ↓Bool.cond_decide, cond_true, cond_false, ↓bI_p, ↓bV_p, ↓bL_p, bIJ_s, bVJ_s, bLJ_s, ↓am_let_s, Nat.blt, Nat.ble, Bool.and_true, Bool.true_and, Bool.and_self, Int.cast_ofNat_Int, am_i_add, am_i_sub, am_i_mul, am_ok_i, am_i_cl, n_lt, n_le, n_eq, n_lt0, n_le0, n_0lt, n_0le, n_eq0, ne_eq, ↓reduceIte, not_true_eq_false, not_false_eq_true, and_true, true_and, and_false, false_and, eq_T, eq_F, lt_T, lt_F, le_T, le_F, qn_T, qn_F, and_F, b01_T, b01_F, e_isIn, Int32.toInt_toInt64, am_i_toInt, am_l_toInt, Int.toNat_natCast, Int.reduceToNat, Int.reduceAdd, Int.reduceSub, Int.reduceMul, Int.reduceNeg, Nat.reduceAdd, Nat.reduceMul, Nat.add_zero, Nat.mul_zero, Nat.zero_add, am_zb0, am_zb1, a2, eE, d1', d97, e1, u98, eo, v97, vw', sg_X12_qGoesOn_115, c1]
  · obtain ⟨I4, I5, c0, c1, c2, c3⟩ := e_pEnd (J := J) (c := 5) hm y3 (by omega)
    refine ⟨I5, fun d => ?_, c2, yN_t t3 (yN_t (yN_q fr3) c3)⟩
    have vw' : am_up (am_up I2 64 97 (am_i W.length)) 64 98 (am_i (o - 1 : Nat)) 135 W.length = am_i 23 := vw
    rw [st, sg_X12_qGoesOn_43]
    simp (disch := first | assumption | omega) only [rM hm, ly_csm, ly_cam, ly_cf, ly_kd, ly_ln, ↓Bool.cond_decide, cond_true, cond_false, ↓bI_p, ↓bV_p, ↓bL_p, bIJ_s, bVJ_s, bLJ_s, ↓am_let_s, Nat.blt, Nat.ble, Bool.and_true, Bool.true_and, Bool.and_self, Int.cast_ofNat_Int, am_i_add, am_i_sub, am_i_mul, am_ok_i, am_i_cl, n_lt, n_le, n_eq, n_lt0, n_le0, n_0lt, n_0le, n_eq0, ne_eq, ↓reduceIte, not_true_eq_false, not_false_eq_true, and_true, true_and, and_false, false_and, eq_T, eq_F, lt_T, lt_F, le_T, le_F, qn_T, qn_F, and_F, b01_T, b01_F, e_isIn, Int32.toInt_toInt64, am_i_toInt, am_l_toInt, Int.toNat_natCast, Int.reduceToNat, Int.reduceAdd, Int.reduceSub, Int.reduceMul, Int.reduceNeg, Nat.reduceAdd, Nat.reduceMul, Nat.add_zero, Nat.mul_zero, Nat.zero_add, am_zb0, am_zb1, a2, eE, d1', d97, e1, u98, eo, v97, vw', sg_X12_qGoesOn_115, c0, c1]
  · obtain ⟨I4, I5, c0, c1, c2, c3⟩ := e_pEnd (J := J) (c := 6) hm y3 (by omega)
    refine ⟨I5, fun d => ?_, c2, yN_t t3 (yN_t (yN_q fr3) c3)⟩
    have vw' : am_up (am_up I2 64 97 (am_i W.length)) 64 98 (am_i (o - 1 : Nat)) 135 W.length = am_i 24 := vw
    rw [st, sg_X12_qGoesOn_43]
    simp (disch := first | assumption | omega) only [rM hm, ly_csm, ly_cam, ly_cf, ly_kd, ly_ln, ↓Bool.cond_decide, cond_true, cond_false, ↓bI_p, ↓bV_p, ↓bL_p, bIJ_s, bVJ_s, bLJ_s, ↓am_let_s, Nat.blt, Nat.ble, Bool.and_true, Bool.true_and, Bool.and_self, Int.cast_ofNat_Int, am_i_add, am_i_sub, am_i_mul, am_ok_i, am_i_cl, n_lt, n_le, n_eq, n_lt0, n_le0, n_0lt, n_0le, n_eq0, ne_eq, ↓reduceIte, not_true_eq_false, not_false_eq_true, and_true, true_and, and_false, false_and, eq_T, eq_F, lt_T, lt_F, le_T, le_F, qn_T, qn_F, and_F, b01_T, b01_F, e_isIn, Int32.toInt_toInt64, am_i_toInt, am_l_toInt, Int.toNat_natCast, Int.reduceToNat, Int.reduceAdd, Int.reduceSub, Int.reduceMul, Int.reduceNeg, Nat.reduceAdd, Nat.reduceMul, Nat.add_zero, Nat.mul_zero, Nat.zero_add, am_zb0, am_zb1, a2, eE, d1', d97, e1, u98, eo, v97, vw', sg_X12_qGoesOn_115, c0, c1]
theorem e_gCm (hm : st_Rm R) {w : Nat} {ops : List Nat} (h : yS T n so b z p o (ops ++ w :: W) C I) (ho : ∀ x ∈ ops, x < 12) (hw : w = 21 ∨ w = 22) (hb : b ≤ W.length) (hn : nSg T n p) : ∃ I', (tSg T n p = (44 : Nat) → (∀ d, am_E (d + 4) 271 0 [(0, .ref 64)] [] (I, J, R, 138) = some (some (.int (am_i 1)), (I', J, R, 138))) ∧ yS T n so b z (tE T n p) o ((w + 2) :: W) (C ++ List.map (fun w : Nat => (w : Int)) ops) I') ∧ (¬ tSg T n p = (44 : Nat) → (∀ d, am_E (d + 4) 271 0 [(0, .ref 64)] [] (I, J, R, 138) = some (some (.int (am_i 0)), (I', J, R, 138))) ∧ yE T n so b z 1 (tAt T n p) I') ∧ yN I I' := by
  have ho20 : ∀ x ∈ ops, x < 20 := fun x hx => by have := ho x hx; omega
  have ebr : brF b (ops ++ w :: W) = w := brF_o (by omega) hb ho20
  have ha := yS_a h
  have n16 := h.1.1
  have hp := h.2.2.2.1
  have hl := h.2.2.2.2.1
  have hnb := h.2.2.2.2.2.1
  have ll : (ops ++ w :: W).length = ops.length + (W.length + 1) := List.length_append
  have lm : (List.map (fun w : Nat => (w : Int)) ops).length = ops.length := List.length_map _
  have lc : (C ++ List.map (fun w : Nat => (w : Int)) ops).length = C.length + ops.length := by rw [List.length_append, lm]
  rw [nbW_a, nbW_0 ho, nbW_c, if_pos (by omega)] at hnb
  have st := fun d => e_g122 (d := d) (J := J) hm h (fun c => by rw [ebr] at c; omega)
  have br := fun d => e_qBracket (d := d) (J := J) hm ha.2.2.1
  rw [ebr] at br
  have f1 : ∀ d, am_E (d + 2) 174 0 [(0, .ref 64), (1, .int (am_i 42))] [] (atP T n p I, J, R, 138) = some (some (.int (am_i 0)), (atP T n p I, J, R, 138)) := ts_f (J := J) hm h (c := 42) (by decide) (by decide) (by decide) hn.1
  have f2 : ∀ d, am_E (d + 2) 174 0 [(0, .ref 64), (1, .int (am_i 47))] [] (atP T n p I, J, R, 138) = some (some (.int (am_i 0)), (atP T n p I, J, R, 138)) := ts_f (J := J) hm h (c := 47) (by decide) (by decide) (by decide) hn.2.1
  have f3 : ∀ d, am_E (d + 2) 174 0 [(0, .ref 64), (1, .int (am_i 43))] [] (atP T n p I, J, R, 138) = some (some (.int (am_i 0)), (atP T n p I, J, R, 138)) := ts_f (J := J) hm h (c := 43) (by decide) (by decide) (by decide) hn.2.2.1
  have f4 : ∀ d, am_E (d + 2) 174 0 [(0, .ref 64), (1, .int (am_i 45))] [] (atP T n p I, J, R, 138) = some (some (.int (am_i 0)), (atP T n p I, J, R, 138)) := ts_f (J := J) hm h (c := 45) (by decide) (by decide) (by decide) hn.2.2.2
  by_cases g : tSg T n p = (44 : Nat)
  · obtain ⟨t1, t2, t3, t4, -⟩ := ts_t (J := J) hm h (c := 44) (by decide) (by decide) (by decide) g
    have as1 : ∀ d, am_E (d + 3) 175 0 [(0, .ref 64), (1, .int (am_i 44))] [] (atP T n p I, J, R, 138) = some (none, (am_up (atP T n p I) 64 2 (am_i (tE T n p)), J, R, 138)) := fun d => by
      have t1' : ∀ d, am_E (d + 2) 174 0 [(0, .ref 64), (1, .int (am_i 44))] [] (atP T n p I, J, R, 138) = some (some (.int (am_i 1)), (am_up (atP T n p I) 64 2 (am_i (tE T n p)), J, R, 138)) := t1
      have h5 := ha.2.1.2.1
      rw [sg_X12_asksSign_0]
      simp (disch := first | assumption | omega) only [rM hm, ly_csm, ly_cam, ly_cf, ly_kd, ly_ln, ↓Bool.cond_decide, cond_true, cond_false, ↓bI_p, ↓bV_p, ↓bL_p, bIJ_s, bVJ_s, bLJ_s, ↓am_let_s, Nat.blt, Nat.ble, Bool.and_true, Bool.true_and, Bool.and_self, Int.cast_ofNat_Int, am_i_add, am_i_sub, am_i_mul, am_ok_i, am_i_cl, n_lt, n_le, n_eq, n_lt0, n_le0, n_0lt, n_0le, n_eq0, ne_eq, ↓reduceIte, not_true_eq_false, not_false_eq_true, and_true, true_and, and_false, false_and, eq_T, eq_F, lt_T, lt_F, le_T, le_F, qn_T, qn_F, and_F, b01_T, b01_F, e_isIn, Int32.toInt_toInt64, am_i_toInt, am_l_toInt, Int.toNat_natCast, Int.reduceToNat, Int.reduceAdd, Int.reduceSub, Int.reduceMul, Int.reduceNeg, Nat.reduceAdd, Nat.reduceMul, Nat.add_zero, Nat.mul_zero, Nat.zero_add, am_zb0, am_zb1, h5, t1', sg_X12_asksSign_24]
    have tb := tE_sg g hp
    obtain ⟨I2, d1, d2, d3⟩ := e_dropTo (J := J) (W := w :: W) hm ops C _ ho20 t2.2.2.1 (by show b ≤ W.length + 1; omega) (Or.inr ⟨w, W, rfl, by omega, by omega⟩)
    have d1' : ∀ d, am_E (d + 3) 265 0 [(0, .ref 64)] [] (am_up (atP T n p I) 64 2 (am_i (tE T n p)), J, R, 138) = some (none, (I2, J, R, 138)) := d1
    have d97 : I2 64 97 = am_i (W.length + 1 : Nat) := d2.2.2.1
    have dw : I2 135 W.length = am_i w := d2.2.2.2.2.2.2.1.1
    have e1 : ((W.length + 1 : Nat) : Int) - 1 = (W.length : Int) := by omega
    have p3 := top_s (w' := w + 2) d2 (by omega)
    have fr3 : ∀ q k, ¬ sqC q k → am_up I2 135 W.length (am_i (w + 2 : Nat)) q k = am_up (atP T n p I) 64 2 (am_i (tE T n p)) q k := fun q k e => by rw [am_up_o (by unfold sqC at e; omega)]; exact d3 q k e
    have h5 : am_up (atP T n p I) 64 2 (am_i (tE T n p)) 64 5 = am_i 0 := t2.2.1.2.1
    have e2 : (w : Int) + 2 = ((w + 2 : Nat) : Int) := by omega
    refine ⟨am_up I2 135 W.length (am_i (w + 2 : Nat)), fun _ => ⟨fun d => ?_, yS_q t2 p3 fr3 (by show _ + (W.length + 1) + 1 + z ≤ _; omega) (by rw [nbW_c, if_pos (by omega)]; omega) (by show b ≤ W.length + 1; omega)⟩, fun c => absurd g c, yN_t t3 (yN_q fr3)⟩
    rw [st, sg_X12_qGoesOn_122]
    rcases hw with rfl | rfl
    · have br' : ∀ d, am_E (d + 2) 264 0 [(0, .ref 64)] [] (atP T n p I, J, R, 138) = some (some (.int (am_i 21)), (atP T n p I, J, R, 138)) := br
      simp (disch := first | assumption | omega) only [rM hm, ly_csm, ly_cam, ly_cf, ly_kd, ly_ln, ↓Bool.cond_decide, cond_true, cond_false, ↓bI_p, ↓bV_p, ↓bL_p, bIJ_s, bVJ_s, bLJ_s, ↓am_let_s, Nat.blt, Nat.ble, Bool.and_true, Bool.true_and, Bool.and_self, Int.cast_ofNat_Int, am_i_add, am_i_sub, am_i_mul, am_ok_i, am_i_cl, n_lt, n_le, n_eq, n_lt0, n_le0, n_0lt, n_0le, n_eq0, ne_eq, ↓reduceIte, not_true_eq_false, not_false_eq_true, and_true, true_and, and_false, false_and, eq_T, eq_F, lt_T, lt_F, le_T, le_F, qn_T, qn_F, and_F, b01_T, b01_F, e_isIn, Int32.toInt_toInt64, am_i_toInt, am_l_toInt, Int.toNat_natCast, Int.reduceToNat, Int.reduceAdd, Int.reduceSub, Int.reduceMul, Int.reduceNeg, Nat.reduceAdd, Nat.reduceMul, Nat.add_zero, Nat.mul_zero, Nat.zero_add, am_zb0, am_zb1, f1, f2, f3, f4, br', sg_X12_qGoesOn_326, as1, h5, d1', d97, e1, dw, e2]
    · have br' : ∀ d, am_E (d + 2) 264 0 [(0, .ref 64)] [] (atP T n p I, J, R, 138) = some (some (.int (am_i 22)), (atP T n p I, J, R, 138)) := br
      simp (disch := first | assumption | omega) only [rM hm, ly_csm, ly_cam, ly_cf, ly_kd, ly_ln, ↓Bool.cond_decide, cond_true, cond_false, ↓bI_p, ↓bV_p, ↓bL_p, bIJ_s, bVJ_s, bLJ_s, ↓am_let_s, Nat.blt, Nat.ble, Bool.and_true, Bool.true_and, Bool.and_self, Int.cast_ofNat_Int, am_i_add, am_i_sub, am_i_mul, am_ok_i, am_i_cl, n_lt, n_le, n_eq, n_lt0, n_le0, n_0lt, n_0le, n_eq0, ne_eq, ↓reduceIte, not_true_eq_false, not_false_eq_true, and_true, true_and, and_false, false_and, eq_T, eq_F, lt_T, lt_F, le_T, le_F, qn_T, qn_F, and_F, b01_T, b01_F, e_isIn, Int32.toInt_toInt64, am_i_toInt, am_l_toInt, Int.toNat_natCast, Int.reduceToNat, Int.reduceAdd, Int.reduceSub, Int.reduceMul, Int.reduceNeg, Nat.reduceAdd, Nat.reduceMul, Nat.add_zero, Nat.mul_zero, Nat.zero_add, am_zb0, am_zb1, f1, f2, f3, f4, br', sg_X12_qGoesOn_326, as1, h5, d1', d97, e1, dw, e2]
  · have as1 : ∃ I2, (∀ d, am_E (d + 3) 175 0 [(0, .ref 64), (1, .int (am_i 44))] [] (atP T n p I, J, R, 138) = some (none, (I2, J, R, 138))) ∧ yE T n so b z 1 (tAt T n p) I2 ∧ yN (atP T n p I) I2 := by
      have f5 : ∀ d, am_E (d + 2) 174 0 [(0, .ref 64), (1, .int (am_i 44))] [] (atP T n p I, J, R, 138) = some (some (.int (am_i 0)), (atP T n p I, J, R, 138)) := ts_f (J := J) hm h (c := 44) (by decide) (by decide) (by decide) g
      have h5 := ha.2.1.2.1
      have a2 : atP T n p I 64 2 = am_i (tAt T n p) := atP_2
      have fl := fun d => m_fail (d := d) (J := J) (R := R) (I := atP T n p I) (v := am_i 1) (w := am_i (tAt T n p)) hm h5
      have fr : ∀ q k, ¬ mlC q k → am_up (am_up (atP T n p I) 64 5 (am_i 1)) 64 6 (am_i (tAt T n p)) q k = atP T n p I q k := fun q k e => by unfold mlC at e; rw [am_up_o (by omega), am_up_o (by omega)]
      refine ⟨_, fun d => ?_, yE_m ha (by omega) (by omega) (by rw [am_up_o (by omega), am_up_e]; rfl) am_up_e fr, yN_m fr⟩
      rw [sg_X12_asksSign_0]
      simp (disch := first | assumption | omega) only [rM hm, ly_csm, ly_cam, ly_cf, ly_kd, ly_ln, ↓Bool.cond_decide, cond_true, cond_false, ↓bI_p, ↓bV_p, ↓bL_p, bIJ_s, bVJ_s, bLJ_s, ↓am_let_s, Nat.blt, Nat.ble, Bool.and_true, Bool.true_and, Bool.and_self, Int.cast_ofNat_Int, am_i_add, am_i_sub, am_i_mul, am_ok_i, am_i_cl, n_lt, n_le, n_eq, n_lt0, n_le0, n_0lt, n_0le, n_eq0, ne_eq, ↓reduceIte, not_true_eq_false, not_false_eq_true, and_true, true_and, and_false, false_and, eq_T, eq_F, lt_T, lt_F, le_T, le_F, qn_T, qn_F, and_F, b01_T, b01_F, e_isIn, Int32.toInt_toInt64, am_i_toInt, am_l_toInt, Int.toNat_natCast, Int.reduceToNat, Int.reduceAdd, Int.reduceSub, Int.reduceMul, Int.reduceNeg, Nat.reduceAdd, Nat.reduceMul, Nat.add_zero, Nat.mul_zero, Nat.zero_add, am_zb0, am_zb1, h5, f5, a2, fl, sg_X12_asksSign_24]
    obtain ⟨I2, as2, y2, y3⟩ := as1
    have h5 := yE_5 y2
    refine ⟨I2, fun c => absurd c g, fun _ => ⟨fun d => ?_, y2⟩, yN_t yN_a y3⟩
    rw [st, sg_X12_qGoesOn_122]
    rcases hw with rfl | rfl
    · have br' : ∀ d, am_E (d + 2) 264 0 [(0, .ref 64)] [] (atP T n p I, J, R, 138) = some (some (.int (am_i 21)), (atP T n p I, J, R, 138)) := br
      simp (disch := first | assumption | omega) only [rM hm, ly_csm, ly_cam, ly_cf, ly_kd, ly_ln, ↓Bool.cond_decide, cond_true, cond_false, ↓bI_p, ↓bV_p, ↓bL_p, bIJ_s, bVJ_s, bLJ_s, ↓am_let_s, Nat.blt, Nat.ble, Bool.and_true, Bool.true_and, Bool.and_self, Int.cast_ofNat_Int, am_i_add, am_i_sub, am_i_mul, am_ok_i, am_i_cl, n_lt, n_le, n_eq, n_lt0, n_le0, n_0lt, n_0le, n_eq0, ne_eq, ↓reduceIte, not_true_eq_false, not_false_eq_true, and_true, true_and, and_false, false_and, eq_T, eq_F, lt_T, lt_F, le_T, le_F, qn_T, qn_F, and_F, b01_T, b01_F, e_isIn, Int32.toInt_toInt64, am_i_toInt, am_l_toInt, Int.toNat_natCast, Int.reduceToNat, Int.reduceAdd, Int.reduceSub, Int.reduceMul, Int.reduceNeg, Nat.reduceAdd, Nat.reduceMul, Nat.add_zero, Nat.mul_zero, Nat.zero_add, am_zb0, am_zb1, f1, f2, f3, f4, br', sg_X12_qGoesOn_326, as2, h5]
    · have br' : ∀ d, am_E (d + 2) 264 0 [(0, .ref 64)] [] (atP T n p I, J, R, 138) = some (some (.int (am_i 22)), (atP T n p I, J, R, 138)) := br
      simp (disch := first | assumption | omega) only [rM hm, ly_csm, ly_cam, ly_cf, ly_kd, ly_ln, ↓Bool.cond_decide, cond_true, cond_false, ↓bI_p, ↓bV_p, ↓bL_p, bIJ_s, bVJ_s, bLJ_s, ↓am_let_s, Nat.blt, Nat.ble, Bool.and_true, Bool.true_and, Bool.and_self, Int.cast_ofNat_Int, am_i_add, am_i_sub, am_i_mul, am_ok_i, am_i_cl, n_lt, n_le, n_eq, n_lt0, n_le0, n_0lt, n_0le, n_eq0, ne_eq, ↓reduceIte, not_true_eq_false, not_false_eq_true, and_true, true_and, and_false, false_and, eq_T, eq_F, lt_T, lt_F, le_T, le_F, qn_T, qn_F, and_F, b01_T, b01_F, e_isIn, Int32.toInt_toInt64, am_i_toInt, am_l_toInt, Int.toNat_natCast, Int.reduceToNat, Int.reduceAdd, Int.reduceSub, Int.reduceMul, Int.reduceNeg, Nat.reduceAdd, Nat.reduceMul, Nat.add_zero, Nat.mul_zero, Nat.zero_add, am_zb0, am_zb1, f1, f2, f3, f4, br', sg_X12_qGoesOn_326, as2, h5]
end MY4
