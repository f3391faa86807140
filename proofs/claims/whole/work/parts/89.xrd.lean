/-! ===== what the class asks of a text ===== -/
def xFt (e pl : Nat) (I : tI) : Prop := I 5 5 = am_i 4 ∧ I 5 10 = am_i e ∧ I 5 11 = am_i pl
def rdX (T : Nat → Nat) (n : Nat) (r : Nat × Nat) (I0 I : tI) : Prop := (r.1 = 0 → scX T n r.2 I ∧ I 5 11 = I0 5 11) ∧ (r.1 ≠ 0 → xFt r.1 r.2 I)
/-- how the token looks: word, sign, kind -/
def vwX (W S : Int) (K : Nat) (I : tI) : Prop := I 5 5 = am_i K ∧ K ≤ 4 ∧ (K = 1 → I 5 8 = am_i W) ∧ (K ≠ 1 → W = -1) ∧ (K = 3 → I 5 7 = am_i S) ∧ (K ≠ 3 → S = -1) ∧ -1 ≤ W ∧ W < 32 ∧ -1 ≤ S ∧ S < 256
section XRD
variable {d : Nat} {J : tJ} {R : tR} {T : Nat → Nat} {n p : Nat} {I : tI}
theorem vw_p (hT : txX T n I R) (h : scX T n p I) : vwX (tW T n p) (tSg T n p) (tK T n p) I := by
  obtain ⟨h2, h3, h4, h5, h10, hw, hn, hs⟩ := h
  have wb := tW_b (T := T) (n := n) (p := p)
  refine ⟨h5, tK_b, fun k => ?_, fun k => if_neg k, fun k => ?_, fun k => if_neg k, wb.1, wb.2, ?_, ?_⟩
  · rw [(hw k).2.1]; unfold tW; rw [if_pos k]
  · rw [hs k]; unfold tSg; rw [if_pos k]
  · unfold tSg; split <;> omega
  · unfold tSg
    split
    · next k => have := (hT.2.2.1 _ (tK_3.mp k).1).1; omega
    · omega
theorem vw_F {e pl : Nat} (h : xFt e pl I) : vwX (-1) (-1) 4 I := ⟨h.1, by omega, fun k => by omega, fun _ => rfl, fun k => by omega, fun _ => rfl, by omega, by omega, by omega, by omega⟩
section VIEW
variable {W S : Int} {K : Nat} (hv : vwX W S K I)
theorem e_isWord (hv : vwX W S K I) {w : Nat} (hw : w < 32) : am_E (d + 1) 82 0 [(0, .ref 5), (1, .int (am_i w))] [] (I, J, R, 138) = some (some (.int (b01 (W = w))), (I, J, R, 138)) := by
  obtain ⟨h5, hK, h8, hW, h7, hS, w1, w2, s1, s2⟩ := hv
  rw [sg_X9_isWord_0]
  by_cases k : K = 1
  · have e8 := h8 k
    by_cases q : W = w
    · rw [b01_t q]
      simp (disch := first | assumption | omega) only [↓Bool.cond_decide, cond_true, cond_false, ↓am_let_s, ↓bI_p, bIJ_s, ↓bV_p, bVJ_s, ↓bL_p, bLJ_s, ly_cf, Bool.and_self, Bool.and_true, am_i_add, am_i_sub, am_i_mul, am_ok_i, am_i_cl, n_lt, n_le, n_eq, n_lt0, n_le0, n_0lt, n_0le, n_eq0, ne_eq, ↓reduceIte, not_true_eq_false, not_false_eq_true, and_true, true_and, and_false, false_and, eq_T, eq_F, lt_T, lt_F, le_T, le_F, qn_T, qn_F, and_F, b01_T, b01_F, e_isIn, Int32.toInt_toInt64, am_i_toInt, am_l_toInt, Int.toNat_natCast, Int.reduceToNat, Int.reduceAdd, Int.reduceSub, Int.reduceMul, Int.reduceNeg, Nat.reduceAdd, Nat.reduceMul, Nat.add_zero, Nat.mul_zero, Nat.zero_add, am_zb0, am_zb1, h5, e8]
    · rw [b01_f q]
      simp (disch := first | assumption | omega) only [↓Bool.cond_decide, cond_true, cond_false, ↓am_let_s, ↓bI_p, bIJ_s, ↓bV_p, bVJ_s, ↓bL_p, bLJ_s, ly_cf, Bool.and_self, Bool.and_true, am_i_add, am_i_sub, am_i_mul, am_ok_i, am_i_cl, n_lt, n_le, n_eq, n_lt0, n_le0, n_0lt, n_0le, n_eq0, ne_eq, ↓reduceIte, not_true_eq_false, not_false_eq_true, and_true, true_and, and_false, false_and, eq_T, eq_F, lt_T, lt_F, le_T, le_F, qn_T, qn_F, and_F, b01_T, b01_F, e_isIn, Int32.toInt_toInt64, am_i_toInt, am_l_toInt, Int.toNat_natCast, Int.reduceToNat, Int.reduceAdd, Int.reduceSub, Int.reduceMul, Int.reduceNeg, Nat.reduceAdd, Nat.reduceMul, Nat.add_zero, Nat.mul_zero, Nat.zero_add, am_zb0, am_zb1, h5, e8, sg_X9_isWord_20]
  · have := hW k
    rw [b01_f (by omega)]
    simp (disch := first | assumption | omega) only [↓Bool.cond_decide, cond_true, cond_false, ↓am_let_s, ↓bI_p, bIJ_s, ↓bV_p, bVJ_s, ↓bL_p, bLJ_s, ly_cf, Bool.and_self, Bool.and_true, am_i_add, am_i_sub, am_i_mul, am_ok_i, am_i_cl, n_lt, n_le, n_eq, n_lt0, n_le0, n_0lt, n_0le, n_eq0, ne_eq, ↓reduceIte, not_true_eq_false, not_false_eq_true, and_true, true_and, and_false, false_and, eq_T, eq_F, lt_T, lt_F, le_T, le_F, qn_T, qn_F, and_F, b01_T, b01_F, e_isIn, Int32.toInt_toInt64, am_i_toInt, am_l_toInt, Int.toNat_natCast, Int.reduceToNat, Int.reduceAdd, Int.reduceSub, Int.reduceMul, Int.reduceNeg, Nat.reduceAdd, Nat.reduceMul, Nat.add_zero, Nat.mul_zero, Nat.zero_add, am_zb0, am_zb1, h5, sg_X9_isWord_20]
theorem e_isSign (hv : vwX W S K I) {c : Nat} (hc : c < 256) : am_E (d + 1) 81 0 [(0, .ref 5), (1, .int (am_i c))] [] (I, J, R, 138) = some (some (.int (b01 (S = c))), (I, J, R, 138)) := by
  obtain ⟨h5, hK, h8, hW, h7, hS, w1, w2, s1, s2⟩ := hv
  rw [sg_X9_isSign_0]
  by_cases k : K = 3
  · have e7 := h7 k
    by_cases q : S = c
    · rw [b01_t q]
      simp (disch := first | assumption | omega) only [↓Bool.cond_decide, cond_true, cond_false, ↓am_let_s, ↓bI_p, bIJ_s, ↓bV_p, bVJ_s, ↓bL_p, bLJ_s, ly_cf, Bool.and_self, Bool.and_true, am_i_add, am_i_sub, am_i_mul, am_ok_i, am_i_cl, n_lt, n_le, n_eq, n_lt0, n_le0, n_0lt, n_0le, n_eq0, ne_eq, ↓reduceIte, not_true_eq_false, not_false_eq_true, and_true, true_and, and_false, false_and, eq_T, eq_F, lt_T, lt_F, le_T, le_F, qn_T, qn_F, and_F, b01_T, b01_F, e_isIn, Int32.toInt_toInt64, am_i_toInt, am_l_toInt, Int.toNat_natCast, Int.reduceToNat, Int.reduceAdd, Int.reduceSub, Int.reduceMul, Int.reduceNeg, Nat.reduceAdd, Nat.reduceMul, Nat.add_zero, Nat.mul_zero, Nat.zero_add, am_zb0, am_zb1, h5, e7]
    · rw [b01_f q]
      simp (disch := first | assumption | omega) only [↓Bool.cond_decide, cond_true, cond_false, ↓am_let_s, ↓bI_p, bIJ_s, ↓bV_p, bVJ_s, ↓bL_p, bLJ_s, ly_cf, Bool.and_self, Bool.and_true, am_i_add, am_i_sub, am_i_mul, am_ok_i, am_i_cl, n_lt, n_le, n_eq, n_lt0, n_le0, n_0lt, n_0le, n_eq0, ne_eq, ↓reduceIte, not_true_eq_false, not_false_eq_true, and_true, true_and, and_false, false_and, eq_T, eq_F, lt_T, lt_F, le_T, le_F, qn_T, qn_F, and_F, b01_T, b01_F, e_isIn, Int32.toInt_toInt64, am_i_toInt, am_l_toInt, Int.toNat_natCast, Int.reduceToNat, Int.reduceAdd, Int.reduceSub, Int.reduceMul, Int.reduceNeg, Nat.reduceAdd, Nat.reduceMul, Nat.add_zero, Nat.mul_zero, Nat.zero_add, am_zb0, am_zb1, h5, e7, sg_X9_isSign_20]
  · have := hS k
    rw [b01_f (by omega)]
    simp (disch := first | assumption | omega) only [↓Bool.cond_decide, cond_true, cond_false, ↓am_let_s, ↓bI_p, bIJ_s, ↓bV_p, bVJ_s, ↓bL_p, bLJ_s, ly_cf, Bool.and_self, Bool.and_true, am_i_add, am_i_sub, am_i_mul, am_ok_i, am_i_cl, n_lt, n_le, n_eq, n_lt0, n_le0, n_0lt, n_0le, n_eq0, ne_eq, ↓reduceIte, not_true_eq_false, not_false_eq_true, and_true, true_and, and_false, false_and, eq_T, eq_F, lt_T, lt_F, le_T, le_F, qn_T, qn_F, and_F, b01_T, b01_F, e_isIn, Int32.toInt_toInt64, am_i_toInt, am_l_toInt, Int.toNat_natCast, Int.reduceToNat, Int.reduceAdd, Int.reduceSub, Int.reduceMul, Int.reduceNeg, Nat.reduceAdd, Nat.reduceMul, Nat.add_zero, Nat.mul_zero, Nat.zero_add, am_zb0, am_zb1, h5, sg_X9_isSign_20]
theorem e_wordHere (hv : vwX W S K I) : am_E (d + 1) 83 0 [(0, .ref 5)] [] (I, J, R, 138) = some (some (.int (am_i W)), (I, J, R, 138)) := by
  obtain ⟨h5, hK, h8, hW, h7, hS, w1, w2, s1, s2⟩ := hv
  rw [sg_X9_wordHere_0]
  by_cases k : K = 1
  · have e8 := h8 k
    simp (disch := first | assumption | omega) only [↓Bool.cond_decide, cond_true, cond_false, ↓am_let_s, ↓bI_p, bIJ_s, ↓bV_p, bVJ_s, ↓bL_p, bLJ_s, ly_cf, Bool.and_self, Bool.and_true, am_i_add, am_i_sub, am_i_mul, am_ok_i, am_i_cl, n_lt, n_le, n_eq, n_lt0, n_le0, n_0lt, n_0le, n_eq0, ne_eq, ↓reduceIte, not_true_eq_false, not_false_eq_true, and_true, true_and, and_false, false_and, eq_T, eq_F, lt_T, lt_F, le_T, le_F, qn_T, qn_F, and_F, b01_T, b01_F, e_isIn, Int32.toInt_toInt64, am_i_toInt, am_l_toInt, Int.toNat_natCast, Int.reduceToNat, Int.reduceAdd, Int.reduceSub, Int.reduceMul, Int.reduceNeg, Nat.reduceAdd, Nat.reduceMul, Nat.add_zero, Nat.mul_zero, Nat.zero_add, am_zb0, am_zb1, h5, e8]
  · have e := hW k
    rw [e]
    simp (disch := first | assumption | omega) only [↓Bool.cond_decide, cond_true, cond_false, ↓am_let_s, ↓bI_p, bIJ_s, ↓bV_p, bVJ_s, ↓bL_p, bLJ_s, ly_cf, Bool.and_self, Bool.and_true, am_i_add, am_i_sub, am_i_mul, am_ok_i, am_i_cl, n_lt, n_le, n_eq, n_lt0, n_le0, n_0lt, n_0le, n_eq0, ne_eq, ↓reduceIte, not_true_eq_false, not_false_eq_true, and_true, true_and, and_false, false_and, eq_T, eq_F, lt_T, lt_F, le_T, le_F, qn_T, qn_F, and_F, b01_T, b01_F, e_isIn, Int32.toInt_toInt64, am_i_toInt, am_l_toInt, Int.toNat_natCast, Int.reduceToNat, Int.reduceAdd, Int.reduceSub, Int.reduceMul, Int.reduceNeg, Nat.reduceAdd, Nat.reduceMul, Nat.add_zero, Nat.mul_zero, Nat.zero_add, am_zb0, am_zb1, h5]
theorem e_signHere (hv : vwX W S K I) : am_E (d + 1) 84 0 [(0, .ref 5)] [] (I, J, R, 138) = some (some (.int (am_i S)), (I, J, R, 138)) := by
  obtain ⟨h5, hK, h8, hW, h7, hS, w1, w2, s1, s2⟩ := hv
  rw [sg_X9_signHere_0]
  by_cases k : K = 3
  · have e7 := h7 k
    simp (disch := first | assumption | omega) only [↓Bool.cond_decide, cond_true, cond_false, ↓am_let_s, ↓bI_p, bIJ_s, ↓bV_p, bVJ_s, ↓bL_p, bLJ_s, ly_cf, Bool.and_self, Bool.and_true, am_i_add, am_i_sub, am_i_mul, am_ok_i, am_i_cl, n_lt, n_le, n_eq, n_lt0, n_le0, n_0lt, n_0le, n_eq0, ne_eq, ↓reduceIte, not_true_eq_false, not_false_eq_true, and_true, true_and, and_false, false_and, eq_T, eq_F, lt_T, lt_F, le_T, le_F, qn_T, qn_F, and_F, b01_T, b01_F, e_isIn, Int32.toInt_toInt64, am_i_toInt, am_l_toInt, Int.toNat_natCast, Int.reduceToNat, Int.reduceAdd, Int.reduceSub, Int.reduceMul, Int.reduceNeg, Nat.reduceAdd, Nat.reduceMul, Nat.add_zero, Nat.mul_zero, Nat.zero_add, am_zb0, am_zb1, h5, e7]
  · have e := hS k
    rw [e]
    simp (disch := first | assumption | omega) only [↓Bool.cond_decide, cond_true, cond_false, ↓am_let_s, ↓bI_p, bIJ_s, ↓bV_p, bVJ_s, ↓bL_p, bLJ_s, ly_cf, Bool.and_self, Bool.and_true, am_i_add, am_i_sub, am_i_mul, am_ok_i, am_i_cl, n_lt, n_le, n_eq, n_lt0, n_le0, n_0lt, n_0le, n_eq0, ne_eq, ↓reduceIte, not_true_eq_false, not_false_eq_true, and_true, true_and, and_false, false_and, eq_T, eq_F, lt_T, lt_F, le_T, le_F, qn_T, qn_F, and_F, b01_T, b01_F, e_isIn, Int32.toInt_toInt64, am_i_toInt, am_l_toInt, Int.toNat_natCast, Int.reduceToNat, Int.reduceAdd, Int.reduceSub, Int.reduceMul, Int.reduceNeg, Nat.reduceAdd, Nat.reduceMul, Nat.add_zero, Nat.mul_zero, Nat.zero_add, am_zb0, am_zb1, h5]
theorem e_isNum (hv : vwX W S K I) : am_E (d + 1) 80 0 [(0, .ref 5)] [] (I, J, R, 138) = some (some (.int (b01 (K = 2))), (I, J, R, 138)) := by
  obtain ⟨h5, hK, -⟩ := hv
  rw [sg_X9_isNumber_0]
  by_cases k : K = 2
  · rw [b01_t k]
    simp (disch := first | assumption | omega) only [↓Bool.cond_decide, cond_true, cond_false, ↓am_let_s, ↓bI_p, bIJ_s, ↓bV_p, bVJ_s, ↓bL_p, bLJ_s, ly_cf, Bool.and_self, Bool.and_true, am_i_add, am_i_sub, am_i_mul, am_ok_i, am_i_cl, n_lt, n_le, n_eq, n_lt0, n_le0, n_0lt, n_0le, n_eq0, ne_eq, ↓reduceIte, not_true_eq_false, not_false_eq_true, and_true, true_and, and_false, false_and, eq_T, eq_F, lt_T, lt_F, le_T, le_F, qn_T, qn_F, and_F, b01_T, b01_F, e_isIn, Int32.toInt_toInt64, am_i_toInt, am_l_toInt, Int.toNat_natCast, Int.reduceToNat, Int.reduceAdd, Int.reduceSub, Int.reduceMul, Int.reduceNeg, Nat.reduceAdd, Nat.reduceMul, Nat.add_zero, Nat.mul_zero, Nat.zero_add, am_zb0, am_zb1, h5]
  · rw [b01_f k]
    simp (disch := first | assumption | omega) only [↓Bool.cond_decide, cond_true, cond_false, ↓am_let_s, ↓bI_p, bIJ_s, ↓bV_p, bVJ_s, ↓bL_p, bLJ_s, ly_cf, Bool.and_self, Bool.and_true, am_i_add, am_i_sub, am_i_mul, am_ok_i, am_i_cl, n_lt, n_le, n_eq, n_lt0, n_le0, n_0lt, n_0le, n_eq0, ne_eq, ↓reduceIte, not_true_eq_false, not_false_eq_true, and_true, true_and, and_false, false_and, eq_T, eq_F, lt_T, lt_F, le_T, le_F, qn_T, qn_F, and_F, b01_T, b01_F, e_isIn, Int32.toInt_toInt64, am_i_toInt, am_l_toInt, Int.toNat_natCast, Int.reduceToNat, Int.reduceAdd, Int.reduceSub, Int.reduceMul, Int.reduceNeg, Nat.reduceAdd, Nat.reduceMul, Nat.add_zero, Nat.mul_zero, Nat.zero_add, am_zb0, am_zb1, h5]
theorem e_isEnd (hv : vwX W S K I) : am_E (d + 1) 79 0 [(0, .ref 5)] [] (I, J, R, 138) = some (some (.int (b01 (K = 0))), (I, J, R, 138)) := by
  obtain ⟨h5, hK, -⟩ := hv
  rw [sg_X9_isEnd_0]
  by_cases k : K = 0
  · rw [b01_t k]
    simp (disch := first | assumption | omega) only [↓Bool.cond_decide, cond_true, cond_false, ↓am_let_s, ↓bI_p, bIJ_s, ↓bV_p, bVJ_s, ↓bL_p, bLJ_s, ly_cf, Bool.and_self, Bool.and_true, am_i_add, am_i_sub, am_i_mul, am_ok_i, am_i_cl, n_lt, n_le, n_eq, n_lt0, n_le0, n_0lt, n_0le, n_eq0, ne_eq, ↓reduceIte, not_true_eq_false, not_false_eq_true, and_true, true_and, and_false, false_and, eq_T, eq_F, lt_T, lt_F, le_T, le_F, qn_T, qn_F, and_F, b01_T, b01_F, e_isIn, Int32.toInt_toInt64, am_i_toInt, am_l_toInt, Int.toNat_natCast, Int.reduceToNat, Int.reduceAdd, Int.reduceSub, Int.reduceMul, Int.reduceNeg, Nat.reduceAdd, Nat.reduceMul, Nat.add_zero, Nat.mul_zero, Nat.zero_add, am_zb0, am_zb1, h5]
  · rw [b01_f k]
    simp (disch := first | assumption | omega) only [↓Bool.cond_decide, cond_true, cond_false, ↓am_let_s, ↓bI_p, bIJ_s, ↓bV_p, bVJ_s, ↓bL_p, bLJ_s, ly_cf, Bool.and_self, Bool.and_true, am_i_add, am_i_sub, am_i_mul, am_ok_i, am_i_cl, n_lt, n_le, n_eq, n_lt0, n_le0, n_0lt, n_0le, n_eq0, ne_eq, ↓reduceIte, not_true_eq_false, not_false_eq_true, and_true, true_and, and_false, false_and, eq_T, eq_F, lt_T, lt_F, le_T, le_F, qn_T, qn_F, and_F, b01_T, b01_F, e_isIn, Int32.toInt_toInt64, am_i_toInt, am_l_toInt, Int.toNat_natCast, Int.reduceToNat, Int.reduceAdd, Int.reduceSub, Int.reduceMul, Int.reduceNeg, Nat.reduceAdd, Nat.reduceMul, Nat.add_zero, Nat.mul_zero, Nat.zero_add, am_zb0, am_zb1, h5]
end VIEW
theorem x_fl {e : Nat} {v : Int32} (h : I 5 10 = am_i 0) : am_E (d + 1) 71 0 [(0, .ref 5), (1, .int (am_i e)), (2, .int v)] [] (I, J, R, 138) = some (none, (am_up (am_up (am_up I 5 10 (am_i e)) 5 11 v) 5 5 (am_i 4), J, R, 138)) := by
  rw [sg_X9_fail_0]
  simp (disch := first | assumption | omega) only [↓Bool.cond_decide, cond_true, cond_false, ↓am_let_s, ↓bI_p, bIJ_s, ↓bV_p, bVJ_s, ↓bL_p, bLJ_s, ly_cf, Bool.and_self, Bool.and_true, am_i_add, am_i_sub, am_i_mul, am_ok_i, am_i_cl, n_lt, n_le, n_eq, n_lt0, n_le0, n_0lt, n_0le, n_eq0, ne_eq, ↓reduceIte, not_true_eq_false, not_false_eq_true, and_true, true_and, and_false, false_and, eq_T, eq_F, lt_T, lt_F, le_T, le_F, qn_T, qn_F, and_F, b01_T, b01_F, e_isIn, Int32.toInt_toInt64, am_i_toInt, am_l_toInt, Int.toNat_natCast, Int.reduceToNat, Int.reduceAdd, Int.reduceSub, Int.reduceMul, Int.reduceNeg, Nat.reduceAdd, Nat.reduceMul, Nat.add_zero, Nat.mul_zero, Nat.zero_add, am_zb0, am_zb1, h, sg_X9_fail_22]
theorem x_flF {e : Nat} {u v : Int32} (h : I 5 10 = am_i e) (he : e ≠ 0) (he2 : e ≤ 9) : am_E (d + 1) 71 0 [(0, .ref 5), (1, .int u), (2, .int v)] [] (I, J, R, 138) = some (none, (I, J, R, 138)) := by
  rw [sg_X9_fail_0]
  simp (disch := first | assumption | omega) only [↓Bool.cond_decide, cond_true, cond_false, ↓am_let_s, ↓bI_p, bIJ_s, ↓bV_p, bVJ_s, ↓bL_p, bLJ_s, ly_cf, Bool.and_self, Bool.and_true, am_i_add, am_i_sub, am_i_mul, am_ok_i, am_i_cl, n_lt, n_le, n_eq, n_lt0, n_le0, n_0lt, n_0le, n_eq0, ne_eq, ↓reduceIte, not_true_eq_false, not_false_eq_true, and_true, true_and, and_false, false_and, eq_T, eq_F, lt_T, lt_F, le_T, le_F, qn_T, qn_F, and_F, b01_T, b01_F, e_isIn, Int32.toInt_toInt64, am_i_toInt, am_l_toInt, Int.toNat_natCast, Int.reduceToNat, Int.reduceAdd, Int.reduceSub, Int.reduceMul, Int.reduceNeg, Nat.reduceAdd, Nat.reduceMul, Nat.add_zero, Nat.mul_zero, Nat.zero_add, am_zb0, am_zb1, h, sg_X9_fail_22]
theorem x_flH (h : I 5 10 = am_i 0) : am_E (d + 2) 72 0 [(0, .ref 5)] [] (I, J, R, 138) = some (none, (am_up (am_up (am_up I 5 10 (am_i 1)) 5 11 (I 5 4)) 5 5 (am_i 4), J, R, 138)) := by
  have f := fun d => x_fl (d := d) (J := J) (R := R) (e := 1) (v := I 5 4) h
  have f' : ∀ d, am_E (d + 1) 71 0 [(0, .ref 5), (1, .int (am_i 1)), (2, .int (I 5 4))] [] (I, J, R, 138) = _ := f
  rw [sg_X9_failHere_0]
  simp (disch := first | assumption | omega) only [↓Bool.cond_decide, cond_true, cond_false, ↓am_let_s, ↓bI_p, bIJ_s, ↓bV_p, bVJ_s, ↓bL_p, bLJ_s, ly_cf, Bool.and_self, Bool.and_true, am_i_add, am_i_sub, am_i_mul, am_ok_i, am_i_cl, n_lt, n_le, n_eq, n_lt0, n_le0, n_0lt, n_0le, n_eq0, ne_eq, ↓reduceIte, not_true_eq_false, not_false_eq_true, and_true, true_and, and_false, false_and, eq_T, eq_F, lt_T, lt_F, le_T, le_F, qn_T, qn_F, and_F, b01_T, b01_F, e_isIn, Int32.toInt_toInt64, am_i_toInt, am_l_toInt, Int.toNat_natCast, Int.reduceToNat, Int.reduceAdd, Int.reduceSub, Int.reduceMul, Int.reduceNeg, Nat.reduceAdd, Nat.reduceMul, Nat.add_zero, Nat.mul_zero, Nat.zero_add, am_zb0, am_zb1, f']
  rfl
theorem x_flHF {e : Nat} (h : I 5 10 = am_i e) (he : e ≠ 0) (he2 : e ≤ 9) : am_E (d + 2) 72 0 [(0, .ref 5)] [] (I, J, R, 138) = some (none, (I, J, R, 138)) := by
  have f := fun d u v => x_flF (d := d) (J := J) (R := R) (u := u) (v := v) h he he2
  rw [sg_X9_failHere_0]
  simp (disch := first | assumption | omega) only [↓Bool.cond_decide, cond_true, cond_false, ↓am_let_s, ↓bI_p, bIJ_s, ↓bV_p, bVJ_s, ↓bL_p, bLJ_s, ly_cf, Bool.and_self, Bool.and_true, am_i_add, am_i_sub, am_i_mul, am_ok_i, am_i_cl, n_lt, n_le, n_eq, n_lt0, n_le0, n_0lt, n_0le, n_eq0, ne_eq, ↓reduceIte, not_true_eq_false, not_false_eq_true, and_true, true_and, and_false, false_and, eq_T, eq_F, lt_T, lt_F, le_T, le_F, qn_T, qn_F, and_F, b01_T, b01_F, e_isIn, Int32.toInt_toInt64, am_i_toInt, am_l_toInt, Int.toNat_natCast, Int.reduceToNat, Int.reduceAdd, Int.reduceSub, Int.reduceMul, Int.reduceNeg, Nat.reduceAdd, Nat.reduceMul, Nat.add_zero, Nat.mul_zero, Nat.zero_add, am_zb0, am_zb1, f]
theorem x_nxF {e : Nat} (h : I 5 10 = am_i e) (he : e ≠ 0) (he2 : e ≤ 9) : am_E (d + 1) 73 0 [(0, .ref 5)] [] (I, J, R, 138) = some (none, (I, J, R, 138)) := by
  rw [sg_X9_next_0]
  simp (disch := first | assumption | omega) only [↓Bool.cond_decide, cond_true, cond_false, ↓am_let_s, ↓bI_p, bIJ_s, ↓bV_p, bVJ_s, ↓bL_p, bLJ_s, ly_cf, Bool.and_self, Bool.and_true, am_i_add, am_i_sub, am_i_mul, am_ok_i, am_i_cl, n_lt, n_le, n_eq, n_lt0, n_le0, n_0lt, n_0le, n_eq0, ne_eq, ↓reduceIte, not_true_eq_false, not_false_eq_true, and_true, true_and, and_false, false_and, eq_T, eq_F, lt_T, lt_F, le_T, le_F, qn_T, qn_F, and_F, b01_T, b01_F, e_isIn, Int32.toInt_toInt64, am_i_toInt, am_l_toInt, Int.toNat_natCast, Int.reduceToNat, Int.reduceAdd, Int.reduceSub, Int.reduceMul, Int.reduceNeg, Nat.reduceAdd, Nat.reduceMul, Nat.add_zero, Nat.mul_zero, Nat.zero_add, am_zb0, am_zb1, h]
theorem fl_x {e pl : Nat} : xFt e pl (am_up (am_up (am_up I 5 10 (am_i e)) 5 11 (am_i pl)) 5 5 (am_i 4)) := ⟨am_up_e, by rw [am_up_o (by omega), am_up_o (by omega), am_up_e], by rw [am_up_o (by omega), am_up_e]⟩
theorem fl_f {e v : Int32} {q k : Nat} (h : q ≠ 5) : am_up (am_up (am_up I 5 10 e) 5 11 v) 5 5 (am_i 4) q k = I q k := by rw [am_up_o (by omega), am_up_o (by omega), am_up_o (by omega)]
theorem txX_c {I' : tI} (h : txX T n I R) (e : ∀ q k, (q = 4 ∨ q = 6) → I' q k = I q k) : txX T n I' R := ⟨h.1, h.2.1, fun k hk => ⟨(h.2.2.1 k hk).1, by rw [e _ _ (Or.inl rfl)]; exact (h.2.2.1 k hk).2⟩, by rw [← h.2.2.2]; exact funext fun k => e 6 k (Or.inr rfl)⟩
theorem tW_4 (h : 0 ≤ tW T n p) : tK T n p ≠ 4 := by
  unfold tW at h
  split at h
  · omega
  · omega
theorem tSg_4 (h : 0 ≤ tSg T n p) : tK T n p ≠ 4 := by
  unfold tSg at h
  split at h
  · omega
  · omega
/-- on to the next token -/
theorem x_go (hx : st_Rx R) (hT : txX T n I R) (hp : p ≤ n) (h : scX T n p I) (hk : tK T n p ≠ 4) : ∃ I', am_E (d + 4) 73 0 [(0, .ref 5)] [] (I, J, R, 138) = some (none, (I', J, R, 138)) ∧ scX T n (tE T n p) I' ∧ I' 5 11 = I 5 11 ∧ ∀ q j, q ≠ 5 → I' q j = I q j := by
  obtain ⟨I', a1, a2, a3⟩ := x_nxt (d := d) (J := J) hx hT (tE_b (T := T) hp).2.1 h.1 h.2.1 h.2.2.2.2.1 h.2.2.2.1 tK_b (fun h1 _ _ => sc_g hp hk h1)
  exact ⟨I', a1, a2, a3 _ _ (by unfold scC; omega), fun q j e => a3 q j (by unfold scC; omega)⟩
theorem x_needSign (hx : st_Rx R) (hT : txX T n I R) (hp : p ≤ n) (h : scX T n p I) {c : Nat} (hc : c < 256) : ∃ I', am_E (d + 5) 85 0 [(0, .ref 5), (1, .int (am_i c))] [] (I, J, R, 138) = some (none, (I', J, R, 138)) ∧ rdX T n (aS T n p c) I I' ∧ ∀ q j, q ≠ 5 → I' q j = I q j := by
  have sg := fun d => e_isSign (d := d) (J := J) (R := R) (vw_p hT h) hc
  unfold aS
  by_cases q : tSg T n p = c
  · obtain ⟨I', a1, a2, a3, a4⟩ := x_go (d := d) (J := J) hx hT hp h (tSg_4 (T := T) (n := n) (p := p) (by omega))
    refine ⟨I', ?_, ?_, a4⟩
    · rw [sg_X9_needSign_0]
      simp (disch := first | assumption | omega) only [↓Bool.cond_decide, cond_true, cond_false, ↓am_let_s, ↓bI_p, bIJ_s, ↓bV_p, bVJ_s, ↓bL_p, bLJ_s, ly_cf, Bool.and_self, Bool.and_true, am_i_add, am_i_sub, am_i_mul, am_ok_i, am_i_cl, n_lt, n_le, n_eq, n_lt0, n_le0, n_0lt, n_0le, n_eq0, ne_eq, ↓reduceIte, not_true_eq_false, not_false_eq_true, and_true, true_and, and_false, false_and, eq_T, eq_F, lt_T, lt_F, le_T, le_F, qn_T, qn_F, and_F, b01_T, b01_F, e_isIn, Int32.toInt_toInt64, am_i_toInt, am_l_toInt, Int.toNat_natCast, Int.reduceToNat, Int.reduceAdd, Int.reduceSub, Int.reduceMul, Int.reduceNeg, Nat.reduceAdd, Nat.reduceMul, Nat.add_zero, Nat.mul_zero, Nat.zero_add, am_zb0, am_zb1, sg, b01_t q, a1, sg_X9_needSign_19]
    · rw [if_pos q]
      exact ⟨fun _ => ⟨a2, a3⟩, fun e => absurd rfl e⟩
  · have fh := fun d => x_flH (d := d) (J := J) (R := R) (I := I) h.2.2.2.2.1
    have h4 := h.2.2.1
    rw [h4] at fh
    refine ⟨am_up (am_up (am_up I 5 10 (am_i 1)) 5 11 (am_i (tAt T n p))) 5 5 (am_i 4), ?_, ?_, fun q j e => fl_f e⟩
    · rw [sg_X9_needSign_0]
      simp (disch := first | assumption | omega) only [↓Bool.cond_decide, cond_true, cond_false, ↓am_let_s, ↓bI_p, bIJ_s, ↓bV_p, bVJ_s, ↓bL_p, bLJ_s, ly_cf, Bool.and_self, Bool.and_true, am_i_add, am_i_sub, am_i_mul, am_ok_i, am_i_cl, n_lt, n_le, n_eq, n_lt0, n_le0, n_0lt, n_0le, n_eq0, ne_eq, ↓reduceIte, not_true_eq_false, not_false_eq_true, and_true, true_and, and_false, false_and, eq_T, eq_F, lt_T, lt_F, le_T, le_F, qn_T, qn_F, and_F, b01_T, b01_F, e_isIn, Int32.toInt_toInt64, am_i_toInt, am_l_toInt, Int.toNat_natCast, Int.reduceToNat, Int.reduceAdd, Int.reduceSub, Int.reduceMul, Int.reduceNeg, Nat.reduceAdd, Nat.reduceMul, Nat.add_zero, Nat.mul_zero, Nat.zero_add, am_zb0, am_zb1, sg, b01_f q, fh, sg_X9_needSign_19]
    · rw [if_neg q]
      exact ⟨fun e => absurd e (by show ¬ (1 = 0); omega), fun _ => fl_x (e := 1)⟩
theorem x_needSignF {e pl c : Nat} (h : xFt e pl I) (he : e ≠ 0) (he2 : e ≤ 9) (hc : c < 256) : am_E (d + 5) 85 0 [(0, .ref 5), (1, .int (am_i c))] [] (I, J, R, 138) = some (none, (I, J, R, 138)) := by
  have sg := fun d => e_isSign (d := d) (J := J) (R := R) (vw_F h) hc
  have fh := fun d => x_flHF (d := d) (J := J) (R := R) h.2.1 he he2
  have ne : ¬ ((-1 : Int) = (c : Int)) := by omega
  rw [sg_X9_needSign_0]
  simp (disch := first | assumption | omega) only [↓Bool.cond_decide, cond_true, cond_false, ↓am_let_s, ↓bI_p, bIJ_s, ↓bV_p, bVJ_s, ↓bL_p, bLJ_s, ly_cf, Bool.and_self, Bool.and_true, am_i_add, am_i_sub, am_i_mul, am_ok_i, am_i_cl, n_lt, n_le, n_eq, n_lt0, n_le0, n_0lt, n_0le, n_eq0, ne_eq, ↓reduceIte, not_true_eq_false, not_false_eq_true, and_true, true_and, and_false, false_and, eq_T, eq_F, lt_T, lt_F, le_T, le_F, qn_T, qn_F, and_F, b01_T, b01_F, e_isIn, Int32.toInt_toInt64, am_i_toInt, am_l_toInt, Int.toNat_natCast, Int.reduceToNat, Int.reduceAdd, Int.reduceSub, Int.reduceMul, Int.reduceNeg, Nat.reduceAdd, Nat.reduceMul, Nat.add_zero, Nat.mul_zero, Nat.zero_add, am_zb0, am_zb1, sg, b01_f ne, fh, sg_X9_needSign_19]
theorem x_needWord (hx : st_Rx R) (hT : txX T n I R) (hp : p ≤ n) (h : scX T n p I) {w : Nat} (hw : w < 32) : ∃ I', am_E (d + 5) 86 0 [(0, .ref 5), (1, .int (am_i w))] [] (I, J, R, 138) = some (none, (I', J, R, 138)) ∧ rdX T n (aW T n p w) I I' ∧ ∀ q j, q ≠ 5 → I' q j = I q j := by
  have sg := fun d => e_isWord (d := d) (J := J) (R := R) (vw_p hT h) hw
  unfold aW
  by_cases q : tW T n p = w
  · obtain ⟨I', a1, a2, a3, a4⟩ := x_go (d := d) (J := J) hx hT hp h (tW_4 (T := T) (n := n) (p := p) (by omega))
    refine ⟨I', ?_, ?_, a4⟩
    · rw [sg_X9_needWord_0]
      simp (disch := first | assumption | omega) only [↓Bool.cond_decide, cond_true, cond_false, ↓am_let_s, ↓bI_p, bIJ_s, ↓bV_p, bVJ_s, ↓bL_p, bLJ_s, ly_cf, Bool.and_self, Bool.and_true, am_i_add, am_i_sub, am_i_mul, am_ok_i, am_i_cl, n_lt, n_le, n_eq, n_lt0, n_le0, n_0lt, n_0le, n_eq0, ne_eq, ↓reduceIte, not_true_eq_false, not_false_eq_true, and_true, true_and, and_false, false_and, eq_T, eq_F, lt_T, lt_F, le_T, le_F, qn_T, qn_F, and_F, b01_T, b01_F, e_isIn, Int32.toInt_toInt64, am_i_toInt, am_l_toInt, Int.toNat_natCast, Int.reduceToNat, Int.reduceAdd, Int.reduceSub, Int.reduceMul, Int.reduceNeg, Nat.reduceAdd, Nat.reduceMul, Nat.add_zero, Nat.mul_zero, Nat.zero_add, am_zb0, am_zb1, sg, b01_t q, a1, sg_X9_needWord_19]
    · rw [if_pos q]
      exact ⟨fun _ => ⟨a2, a3⟩, fun e => absurd rfl e⟩
  · have fh := fun d => x_flH (d := d) (J := J) (R := R) (I := I) h.2.2.2.2.1
    have h4 := h.2.2.1
    rw [h4] at fh
    refine ⟨am_up (am_up (am_up I 5 10 (am_i 1)) 5 11 (am_i (tAt T n p))) 5 5 (am_i 4), ?_, ?_, fun q j e => fl_f e⟩
    · rw [sg_X9_needWord_0]
      simp (disch := first | assumption | omega) only [↓Bool.cond_decide, cond_true, cond_false, ↓am_let_s, ↓bI_p, bIJ_s, ↓bV_p, bVJ_s, ↓bL_p, bLJ_s, ly_cf, Bool.and_self, Bool.and_true, am_i_add, am_i_sub, am_i_mul, am_ok_i, am_i_cl, n_lt, n_le, n_eq, n_lt0, n_le0, n_0lt, n_0le, n_eq0, ne_eq, ↓reduceIte, not_true_eq_false, not_false_eq_true, and_true, true_and, and_false, false_and, eq_T, eq_F, lt_T, lt_F, le_T, le_F, qn_T, qn_F, and_F, b01_T, b01_F, e_isIn, Int32.toInt_toInt64, am_i_toInt, am_l_toInt, Int.toNat_natCast, Int.reduceToNat, Int.reduceAdd, Int.reduceSub, Int.reduceMul, Int.reduceNeg, Nat.reduceAdd, Nat.reduceMul, Nat.add_zero, Nat.mul_zero, Nat.zero_add, am_zb0, am_zb1, sg, b01_f q, fh, sg_X9_needWord_19]
    · rw [if_neg q]
      exact ⟨fun e => absurd e (by show ¬ (1 = 0); omega), fun _ => fl_x (e := 1)⟩
theorem x_needWordF {e pl w : Nat} (h : xFt e pl I) (he : e ≠ 0) (he2 : e ≤ 9) (hw : w < 32) : am_E (d + 5) 86 0 [(0, .ref 5), (1, .int (am_i w))] [] (I, J, R, 138) = some (none, (I, J, R, 138)) := by
  have sg := fun d => e_isWord (d := d) (J := J) (R := R) (vw_F h) hw
  have fh := fun d => x_flHF (d := d) (J := J) (R := R) h.2.1 he he2
  have ne : ¬ ((-1 : Int) = (w : Int)) := by omega
  rw [sg_X9_needWord_0]
  simp (disch := first | assumption | omega) only [↓Bool.cond_decide, cond_true, cond_false, ↓am_let_s, ↓bI_p, bIJ_s, ↓bV_p, bVJ_s, ↓bL_p, bLJ_s, ly_cf, Bool.and_self, Bool.and_true, am_i_add, am_i_sub, am_i_mul, am_ok_i, am_i_cl, n_lt, n_le, n_eq, n_lt0, n_le0, n_0lt, n_0le, n_eq0, ne_eq, ↓reduceIte, not_true_eq_false, not_false_eq_true, and_true, true_and, and_false, false_and, eq_T, eq_F, lt_T, lt_F, le_T, le_F, qn_T, qn_F, and_F, b01_T, b01_F, e_isIn, Int32.toInt_toInt64, am_i_toInt, am_l_toInt, Int.toNat_natCast, Int.reduceToNat, Int.reduceAdd, Int.reduceSub, Int.reduceMul, Int.reduceNeg, Nat.reduceAdd, Nat.reduceMul, Nat.add_zero, Nat.mul_zero, Nat.zero_add, am_zb0, am_zb1, sg, b01_f ne, fh, sg_X9_needWord_19]
theorem tV_b (hp : p ≤ n) (k2 : tK T n p = 2) (q4 : ¬ 4 < tN T n p) : tV T n p < 10000 := by
  have eE := tE_2 k2
  have eV : tV T n p = nvS T (tAt T n p) (tN T n p) := by unfold tV; rw [show min 4 (tN T n p) = tN T n p by omega]
  rw [eV]
  refine Nat.lt_of_lt_of_le (nv_b (fun _ _ _ _ => trivial) (tN T n p) (fun i hi' => ?_)) (Nat.pow_le_pow_right (n := 10) (by omega) (show tN T n p ≤ 4 by omega))
  have hN : tAt T n p + tN T n p = tE T n p := by unfold tN; have := tE_b (T := T) hp; omega
  obtain ⟨-, k⟩ := sp_in (c := dB) (T := T) (n := n) (p := tAt T n p) (q := tAt T n p + i) (by omega) (by omega)
  exact dB_t.mp k
theorem x_needNumber (hx : st_Rx R) (hT : txX T n I R) (hp : p ≤ n) (h : scX T n p I) {lo hi : Nat} (hlo : lo ≤ 10000) (hhi : hi ≤ 10000) : ∃ I', am_E (d + 5) 87 0 [(0, .ref 5), (1, .int (am_i lo)), (2, .int (am_i hi))] [] (I, J, R, 138) = some (some (.int (am_i (if (aN T n p lo hi).1 = 0 then tV T n p else lo : Nat))), (I', J, R, 138)) ∧ rdX T n (aN T n p lo hi) I I' ∧ ∀ q j, q ≠ 5 → I' q j = I q j := by
  have h5 := h.2.2.2.1
  have h10 := h.2.2.2.2.1
  have h4 := h.2.2.1
  have kb := tK_b (T := T) (n := n) (p := p)
  have n1 := hT.1
  have eb := tE_b (T := T) hp
  have ab := tAt_b (T := T) hp
  -- behind a failure
  have f62 : ∀ e pl : Nat, e ≠ 0 → e ≤ 9 → ∀ d, am_E (d + 2) 87 62 [(0, .ref 5), (1, .int (am_i lo))] [] (am_up (am_up (am_up I 5 10 (am_i e)) 5 11 (am_i pl)) 5 5 (am_i 4), J, R, 138) = some (some (.int (am_i lo)), (am_up (am_up (am_up I 5 10 (am_i e)) 5 11 (am_i pl)) 5 5 (am_i 4), J, R, 138)) := fun e pl he he2 d => by
    have g10 : am_up (am_up (am_up I 5 10 (am_i e)) 5 11 (am_i pl)) 5 5 (am_i 4) 5 10 = am_i e := by rw [am_up_o (by omega), am_up_o (by omega), am_up_e]
    have nf := fun d => x_nxF (d := d) (J := J) (R := R) g10 he he2
    rw [sg_X9_needNumber_62]
    simp (disch := first | assumption | omega) only [↓Bool.cond_decide, cond_true, cond_false, ↓am_let_s, ↓bI_p, bIJ_s, ↓bV_p, bVJ_s, ↓bL_p, bLJ_s, ly_cf, Bool.and_self, Bool.and_true, am_i_add, am_i_sub, am_i_mul, am_ok_i, am_i_cl, n_lt, n_le, n_eq, n_lt0, n_le0, n_0lt, n_0le, n_eq0, ne_eq, ↓reduceIte, not_true_eq_false, not_false_eq_true, and_true, true_and, and_false, false_and, eq_T, eq_F, lt_T, lt_F, le_T, le_F, qn_T, qn_F, and_F, b01_T, b01_F, e_isIn, Int32.toInt_toInt64, am_i_toInt, am_l_toInt, Int.toNat_natCast, Int.reduceToNat, Int.reduceAdd, Int.reduceSub, Int.reduceMul, Int.reduceNeg, Nat.reduceAdd, Nat.reduceMul, Nat.add_zero, Nat.mul_zero, Nat.zero_add, am_zb0, am_zb1, g10, nf]
  unfold aN
  by_cases k2 : tK T n p = 2
  · obtain ⟨e6, e7⟩ := h.2.2.2.2.2.2.1 k2
    have nb : tN T n p ≤ 1600 := by unfold tN; omega
    rw [if_pos k2]
    rw [k2] at h5
    have h5' : I 5 5 = am_i 2 := h5
    by_cases q4 : 4 < tN T n p
    · rw [if_pos q4]
      have e4 : (tAt T n p : Int) + 4 = ((tAt T n p + 4 : Nat) : Int) := by omega
      have fl := fun d => x_fl (d := d) (J := J) (R := R) (e := 1) (v := am_i (tAt T n p + 4 : Nat)) h10
      have fl' : ∀ d, am_E (d + 1) 71 0 [(0, .ref 5), (1, .int (am_i 1)), (2, .int (am_i (tAt T n p + 4 : Nat)))] [] (I, J, R, 138) = _ := fl
      have ff := f62 1 (tAt T n p + 4) (by omega) (by omega)
      refine ⟨am_up (am_up (am_up I 5 10 (am_i (1 : Nat))) 5 11 (am_i (tAt T n p + 4 : Nat))) 5 5 (am_i 4), ?_, ⟨fun e => absurd e (by show ¬ (1 = 0); omega), fun _ => fl_x⟩, fun q j e => fl_f e⟩
      rw [sg_X9_needNumber_0]
      simp (disch := first | assumption | omega) only [↓Bool.cond_decide, cond_true, cond_false, ↓am_let_s, ↓bI_p, bIJ_s, ↓bV_p, bVJ_s, ↓bL_p, bLJ_s, ly_cf, Bool.and_self, Bool.and_true, am_i_add, am_i_sub, am_i_mul, am_ok_i, am_i_cl, n_lt, n_le, n_eq, n_lt0, n_le0, n_0lt, n_0le, n_eq0, ne_eq, ↓reduceIte, not_true_eq_false, not_false_eq_true, and_true, true_and, and_false, false_and, eq_T, eq_F, lt_T, lt_F, le_T, le_F, qn_T, qn_F, and_F, b01_T, b01_F, e_isIn, Int32.toInt_toInt64, am_i_toInt, am_l_toInt, Int.toNat_natCast, Int.reduceToNat, Int.reduceAdd, Int.reduceSub, Int.reduceMul, Int.reduceNeg, Nat.reduceAdd, Nat.reduceMul, Nat.add_zero, Nat.mul_zero, Nat.zero_add, am_zb0, am_zb1, h5', e6, h4, e4, fl', ff]
    · rw [if_neg q4]
      have vb := tV_b (T := T) hp k2 q4
      by_cases c : tV T n p < lo ∨ hi < tV T n p
      · rw [if_pos c]
        have fl := fun d => x_fl (d := d) (J := J) (R := R) (e := 2) (v := am_i (tAt T n p)) h10
        have fl' : ∀ d, am_E (d + 1) 71 0 [(0, .ref 5), (1, .int (am_i 2)), (2, .int (am_i (tAt T n p)))] [] (I, J, R, 138) = _ := fl
        have ff := f62 2 (tAt T n p) (by omega) (by omega)
        have f53 : ∀ d, am_E (d + 3) 87 53 [(0, .ref 5), (1, .int (am_i lo))] [] (I, J, R, 138) = some (some (.int (am_i lo)), (am_up (am_up (am_up I 5 10 (am_i (2 : Nat))) 5 11 (am_i (tAt T n p))) 5 5 (am_i 4), J, R, 138)) := fun d => by
          rw [sg_X9_needNumber_53]
          simp (disch := first | assumption | omega) only [↓Bool.cond_decide, cond_true, cond_false, ↓am_let_s, ↓bI_p, bIJ_s, ↓bV_p, bVJ_s, ↓bL_p, bLJ_s, ly_cf, Bool.and_self, Bool.and_true, am_i_add, am_i_sub, am_i_mul, am_ok_i, am_i_cl, n_lt, n_le, n_eq, n_lt0, n_le0, n_0lt, n_0le, n_eq0, ne_eq, ↓reduceIte, not_true_eq_false, not_false_eq_true, and_true, true_and, and_false, false_and, eq_T, eq_F, lt_T, lt_F, le_T, le_F, qn_T, qn_F, and_F, b01_T, b01_F, e_isIn, Int32.toInt_toInt64, am_i_toInt, am_l_toInt, Int.toNat_natCast, Int.reduceToNat, Int.reduceAdd, Int.reduceSub, Int.reduceMul, Int.reduceNeg, Nat.reduceAdd, Nat.reduceMul, Nat.add_zero, Nat.mul_zero, Nat.zero_add, am_zb0, am_zb1, h4, fl', ff]
        refine ⟨am_up (am_up (am_up I 5 10 (am_i (2 : Nat))) 5 11 (am_i (tAt T n p))) 5 5 (am_i 4), ?_, ⟨fun e => absurd e (by show ¬ (2 = 0); omega), fun _ => fl_x⟩, fun q j e => fl_f e⟩
        rw [sg_X9_needNumber_0]
        by_cases c1 : tV T n p < lo
        · simp (disch := first | assumption | omega) only [↓Bool.cond_decide, cond_true, cond_false, ↓am_let_s, ↓bI_p, bIJ_s, ↓bV_p, bVJ_s, ↓bL_p, bLJ_s, ly_cf, Bool.and_self, Bool.and_true, am_i_add, am_i_sub, am_i_mul, am_ok_i, am_i_cl, n_lt, n_le, n_eq, n_lt0, n_le0, n_0lt, n_0le, n_eq0, ne_eq, ↓reduceIte, not_true_eq_false, not_false_eq_true, and_true, true_and, and_false, false_and, eq_T, eq_F, lt_T, lt_F, le_T, le_F, qn_T, qn_F, and_F, b01_T, b01_F, e_isIn, Int32.toInt_toInt64, am_i_toInt, am_l_toInt, Int.toNat_natCast, Int.reduceToNat, Int.reduceAdd, Int.reduceSub, Int.reduceMul, Int.reduceNeg, Nat.reduceAdd, Nat.reduceMul, Nat.add_zero, Nat.mul_zero, Nat.zero_add, am_zb0, am_zb1, h5', e6, e7, f53]
        · simp (disch := first | assumption | omega) only [↓Bool.cond_decide, cond_true, cond_false, ↓am_let_s, ↓bI_p, bIJ_s, ↓bV_p, bVJ_s, ↓bL_p, bLJ_s, ly_cf, Bool.and_self, Bool.and_true, am_i_add, am_i_sub, am_i_mul, am_ok_i, am_i_cl, n_lt, n_le, n_eq, n_lt0, n_le0, n_0lt, n_0le, n_eq0, ne_eq, ↓reduceIte, not_true_eq_false, not_false_eq_true, and_true, true_and, and_false, false_and, eq_T, eq_F, lt_T, lt_F, le_T, le_F, qn_T, qn_F, and_F, b01_T, b01_F, e_isIn, Int32.toInt_toInt64, am_i_toInt, am_l_toInt, Int.toNat_natCast, Int.reduceToNat, Int.reduceAdd, Int.reduceSub, Int.reduceMul, Int.reduceNeg, Nat.reduceAdd, Nat.reduceMul, Nat.add_zero, Nat.mul_zero, Nat.zero_add, am_zb0, am_zb1, h5', e6, e7, f53]
      · rw [if_neg c]
        obtain ⟨I', a1, a2, a3, a4⟩ := x_go (d := d) (J := J) hx hT hp h (by omega)
        refine ⟨I', ?_, ⟨fun _ => ⟨a2, a3⟩, fun e => absurd rfl e⟩, a4⟩
        have g : ∀ v : Nat, v = tV T n p → am_E (d + 5) 87 62 [(0, .ref 5), (1, .int (am_i lo))] [] (I, J, R, 138) = some (some (.int (am_i v)), (I', J, R, 138)) := fun v hv => by
          rw [sg_X9_needNumber_62, hv]
          simp (disch := first | assumption | omega) only [↓Bool.cond_decide, cond_true, cond_false, ↓am_let_s, ↓bI_p, bIJ_s, ↓bV_p, bVJ_s, ↓bL_p, bLJ_s, ly_cf, Bool.and_self, Bool.and_true, am_i_add, am_i_sub, am_i_mul, am_ok_i, am_i_cl, n_lt, n_le, n_eq, n_lt0, n_le0, n_0lt, n_0le, n_eq0, ne_eq, ↓reduceIte, not_true_eq_false, not_false_eq_true, and_true, true_and, and_false, false_and, eq_T, eq_F, lt_T, lt_F, le_T, le_F, qn_T, qn_F, and_F, b01_T, b01_F, e_isIn, Int32.toInt_toInt64, am_i_toInt, am_l_toInt, Int.toNat_natCast, Int.reduceToNat, Int.reduceAdd, Int.reduceSub, Int.reduceMul, Int.reduceNeg, Nat.reduceAdd, Nat.reduceMul, Nat.add_zero, Nat.mul_zero, Nat.zero_add, am_zb0, am_zb1, h10, a1, e7]
        rw [sg_X9_needNumber_0]
        simp (disch := first | assumption | omega) only [↓Bool.cond_decide, cond_true, cond_false, ↓am_let_s, ↓bI_p, bIJ_s, ↓bV_p, bVJ_s, ↓bL_p, bLJ_s, ly_cf, Bool.and_self, Bool.and_true, am_i_add, am_i_sub, am_i_mul, am_ok_i, am_i_cl, n_lt, n_le, n_eq, n_lt0, n_le0, n_0lt, n_0le, n_eq0, ne_eq, ↓reduceIte, not_true_eq_false, not_false_eq_true, and_true, true_and, and_false, false_and, eq_T, eq_F, lt_T, lt_F, le_T, le_F, qn_T, qn_F, and_F, b01_T, b01_F, e_isIn, Int32.toInt_toInt64, am_i_toInt, am_l_toInt, Int.toNat_natCast, Int.reduceToNat, Int.reduceAdd, Int.reduceSub, Int.reduceMul, Int.reduceNeg, Nat.reduceAdd, Nat.reduceMul, Nat.add_zero, Nat.mul_zero, Nat.zero_add, am_zb0, am_zb1, h5', e6, e7]
        exact g _ rfl
  · rw [if_neg k2]
    have fh := fun d => x_flH (d := d) (J := J) (R := R) (I := I) h10
    rw [h4] at fh
    have ff := f62 1 (tAt T n p) (by omega) (by omega)
    have fh' : ∀ d, am_E (d + 2) 72 0 [(0, .ref 5)] [] (I, J, R, 138) = some (none, (am_up (am_up (am_up I 5 10 (am_i (1 : Nat))) 5 11 (am_i (tAt T n p))) 5 5 (am_i 4), J, R, 138)) := fh
    refine ⟨am_up (am_up (am_up I 5 10 (am_i (1 : Nat))) 5 11 (am_i (tAt T n p))) 5 5 (am_i 4), ?_, ⟨fun e => absurd e (by show ¬ (1 = 0); omega), fun _ => fl_x⟩, fun q j e => fl_f e⟩
    rw [sg_X9_needNumber_0]
    simp (disch := first | assumption | omega) only [↓Bool.cond_decide, cond_true, cond_false, ↓am_let_s, ↓bI_p, bIJ_s, ↓bV_p, bVJ_s, ↓bL_p, bLJ_s, ly_cf, Bool.and_self, Bool.and_true, am_i_add, am_i_sub, am_i_mul, am_ok_i, am_i_cl, n_lt, n_le, n_eq, n_lt0, n_le0, n_0lt, n_0le, n_eq0, ne_eq, ↓reduceIte, not_true_eq_false, not_false_eq_true, and_true, true_and, and_false, false_and, eq_T, eq_F, lt_T, lt_F, le_T, le_F, qn_T, qn_F, and_F, b01_T, b01_F, e_isIn, Int32.toInt_toInt64, am_i_toInt, am_l_toInt, Int.toNat_natCast, Int.reduceToNat, Int.reduceAdd, Int.reduceSub, Int.reduceMul, Int.reduceNeg, Nat.reduceAdd, Nat.reduceMul, Nat.add_zero, Nat.mul_zero, Nat.zero_add, am_zb0, am_zb1, h5, fh', ff]
theorem x_needNumberF {e pl lo hi : Nat} (h : xFt e pl I) (he : e ≠ 0) (he2 : e ≤ 9) : am_E (d + 5) 87 0 [(0, .ref 5), (1, .int (am_i lo)), (2, .int (am_i hi))] [] (I, J, R, 138) = some (some (.int (am_i lo)), (I, J, R, 138)) := by
  have fh := fun d => x_flHF (d := d) (J := J) (R := R) h.2.1 he he2
  have nf := fun d => x_nxF (d := d) (J := J) (R := R) h.2.1 he he2
  have h5 := h.1
  have h10 := h.2.1
  rw [sg_X9_needNumber_0]
  simp (disch := first | assumption | omega) only [↓Bool.cond_decide, cond_true, cond_false, ↓am_let_s, ↓bI_p, bIJ_s, ↓bV_p, bVJ_s, ↓bL_p, bLJ_s, ly_cf, Bool.and_self, Bool.and_true, am_i_add, am_i_sub, am_i_mul, am_ok_i, am_i_cl, n_lt, n_le, n_eq, n_lt0, n_le0, n_0lt, n_0le, n_eq0, ne_eq, ↓reduceIte, not_true_eq_false, not_false_eq_true, and_true, true_and, and_false, false_and, eq_T, eq_F, lt_T, lt_F, le_T, le_F, qn_T, qn_F, and_F, b01_T, b01_F, e_isIn, Int32.toInt_toInt64, am_i_toInt, am_l_toInt, Int.toNat_natCast, Int.reduceToNat, Int.reduceAdd, Int.reduceSub, Int.reduceMul, Int.reduceNeg, Nat.reduceAdd, Nat.reduceMul, Nat.add_zero, Nat.mul_zero, Nat.zero_add, am_zb0, am_zb1, h5, fh, sg_X9_needNumber_62, h10, nf]
end XRD
