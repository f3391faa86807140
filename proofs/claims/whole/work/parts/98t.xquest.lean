/-! ===== a question as a text: the class ===== -/
def pZ (T : Nat → Nat) (n p : Nat) : pR := if tK T n p = 0 then pT p [] else (1, tAt T n p, [])
def pQ (T : Nat → Nat) (n f : Nat) : pR := if 26 ≤ tW T n 0 ∧ tW T n 0 ≤ 28 then pB (pG T n 3 f 8 0 (tE T n 0)) (pZ T n) else if 29 ≤ tW T n 0 ∧ tW T n 0 ≤ 31 then pB (pG T n 3 f 3 0 (tE T n 0)) (pZ T n) else (1, tAt T n 0, [])
section XQ
variable {d : Nat} {J : tJ} {R : tR} {T : Nat → Nat} {n p f : Nat} {I I' : tI}
theorem rx_51 (hx : st_Rx R) : st_Rx (am_up R 5 1 4) := by
  have hq : ∀ q k, ¬ (q = 5 ∧ k = 1) → am_up R 5 1 4 q k = R q k := fun q k e => am_up_o e
  simp (disch := omega) only [st_Rx, hq, rX hx, and_self]
theorem rm_51 (hm : st_Rm R) : st_Rm (am_up R 5 1 4) := by
  have hq : ∀ q k, ¬ (q = 5 ∧ k = 1) → am_up R 5 1 4 q k = R q k := fun q k e => am_up_o e
  simp (disch := omega) only [st_Rm, hq, rM hm, and_self]
theorem x_start (hx : st_Rx R) (hn : n ≤ 1600) (hT : ∀ k, k < n → T k < 256 ∧ I 4 k = am_i (T k)) (h6 : I 6 = am_K0 6) : ∃ I', am_E (d + 5) 70 0 [(0, .ref 5), (1, .ref 4), (2, .int (am_i n))] [] (I, J, R, 138) = some (none, (I', J, am_up R 5 1 4, 138)) ∧ scX T n 0 I' ∧ I' 5 11 = am_i (-1) ∧ ∀ q j, q ≠ 5 → I' q j = I q j := by
  have hx1 := rx_51 hx
  obtain ⟨I1, hI1⟩ : ∃ I1, I1 = am_up (am_up (am_up (am_up (am_up I 5 2 (am_i n)) 5 3 (am_i 0)) 5 10 (am_i 0)) 5 11 (am_i (-1))) 5 5 (am_i 0) := ⟨_, rfl⟩
  have o1 : ∀ q k, q ≠ 5 → I1 q k = I q k := fun q k e => by rw [hI1, am_up_o (by omega), am_up_o (by omega), am_up_o (by omega), am_up_o (by omega), am_up_o (by omega)]
  have hT1 : txX T n I1 (am_up R 5 1 4) := ⟨hn, am_up_e, fun k hk => ⟨(hT k hk).1, by rw [o1 _ _ (by omega)]; exact (hT k hk).2⟩, by rw [← h6]; exact funext fun k => o1 6 k (by omega)⟩
  obtain ⟨I2, a1, a2, a3⟩ := x_nxt (d := d) (J := J) hx1 hT1 (p := 0) (kk := 0) (by omega) (by rw [hI1, am_up_o (by omega), am_up_o (by omega), am_up_o (by omega), am_up_o (by omega), am_up_e]) (by rw [hI1, am_up_o (by omega), am_up_o (by omega), am_up_o (by omega), am_up_e]; rfl) (by rw [hI1, am_up_o (by omega), am_up_o (by omega), am_up_e]) (by rw [hI1, am_up_e]; rfl) (by omega) (fun _ _ _ => by unfold tGl; rw [decide_eq_false (by omega)]; simp)
  refine ⟨I2, ?_, a2, ?_, fun q j e => ?_⟩
  · rw [sg_X9_start_0]
    have e1 : (if am_i 1600 < am_i (n : Int) then am_i 1600 else am_i (n : Int)) = am_i n := by
      simp (disch := first | assumption | omega) only [am_i_add, am_i_sub, am_i_mul, am_ok_i, am_i_cl, n_lt, n_le, n_eq, n_lt0, n_le0, n_0lt, n_0le, n_eq0, ne_eq, ↓reduceIte, not_true_eq_false, not_false_eq_true, and_true, true_and, and_false, false_and, eq_T, eq_F, lt_T, lt_F, le_T, le_F, qn_T, qn_F, and_F, b01_T, b01_F, e_isIn, Int32.toInt_toInt64, am_i_toInt, am_l_toInt, Int.toNat_natCast, Int.reduceToNat, Int.reduceAdd, Int.reduceSub, Int.reduceMul, Int.reduceNeg, Nat.reduceAdd, Nat.reduceMul, Nat.add_zero, Nat.mul_zero, Nat.zero_add, am_zb0, am_zb1]
    simp (disch := first | assumption | omega) only [rX hx, ly_csx, ly_cax, ly_cf, ly_kd, ly_ln, ↓Bool.cond_decide, cond_true, cond_false, ↓bI_p, ↓bV_p, ↓bL_p, bIJ_s, bVJ_s, bLJ_s, ↓am_let_s, Nat.blt, Nat.ble, Bool.and_true, Bool.true_and, Bool.and_self, Int.cast_ofNat_Int, am_i_add, am_i_sub, am_i_mul, am_ok_i, am_i_cl, n_lt, n_le, n_eq, n_lt0, n_le0, n_0lt, n_0le, n_eq0, ne_eq, ↓reduceIte, not_true_eq_false, not_false_eq_true, and_true, true_and, and_false, false_and, eq_T, eq_F, lt_T, lt_F, le_T, le_F, qn_T, qn_F, and_F, b01_T, b01_F, e_isIn, Int32.toInt_toInt64, am_i_toInt, am_l_toInt, Int.toNat_natCast, Int.reduceToNat, Int.reduceAdd, Int.reduceSub, Int.reduceMul, Int.reduceNeg, Nat.reduceAdd, Nat.reduceMul, Nat.add_zero, Nat.mul_zero, Nat.zero_add, am_zb0, am_zb1, e1]
    rw [← hI1, a1]
    rfl
  · rw [a3 _ _ (by unfold scC; omega), hI1, am_up_o (by omega), am_up_e]
  · rw [a3 _ _ (by unfold scC; omega)]
    exact o1 q j e
theorem x_quest (hx : st_Rx R) (hT : txX T n I R) (h : scX T n 0 I) (hf : 10 * n + 20 ≤ f) : ∃ I', am_E (d + 80) 17 0 [(0, .ref 8)] [] (I, J, R, 138) = some (some (.int (am_i (tW T n 0))), (I', J, R, 138)) ∧ ((pQ T n f).1 = 0 → I' 5 10 = am_i 0 ∧ I' 5 11 = I 5 11 ∧ qfX (pQ T n f).2.2 I') ∧ ((pQ T n f).1 ≠ 0 → xFt (pQ T n f).1 (pQ T n f).2.1 I') ∧ ∀ q j, q ≠ 5 → q ≠ 8 → q ≠ 9 → I' q j = I q j := by
  have tb := tW_b (T := T) (n := n) (p := 0)
  obtain ⟨I1, hI1⟩ : ∃ I1, I1 = am_up (am_up (am_up (am_up I 8 2 (am_i 0)) 8 3 (am_i 0)) 8 5 (am_i 3)) 8 4 (am_i 0) := ⟨_, rfl⟩
  have o1 : ∀ q k, q ≠ 8 → I1 q k = I q k := fun q k e => by rw [hI1, am_up_o (by omega), am_up_o (by omega), am_up_o (by omega), am_up_o (by omega)]
  have f1 : fS 3 0 0 0 I1 := ⟨by rw [hI1, am_up_o (by omega), am_up_o (by omega), am_up_o (by omega), am_up_e]; rfl, by rw [hI1, am_up_o (by omega), am_up_o (by omega), am_up_e]; rfl, by rw [hI1, am_up_e]; rfl, by rw [hI1, am_up_o (by omega), am_up_e]; rfl⟩
  have T1 : txX T n I1 R := txX_c hT (fun q k e => o1 q k (by omega))
  have s1 : scX T n 0 I1 := by
    unfold scX at h ⊢
    rw [o1 5 2 (by omega), o1 5 3 (by omega), o1 5 4 (by omega), o1 5 5 (by omega), o1 5 6 (by omega), o1 5 7 (by omega), o1 5 8 (by omega), o1 5 9 (by omega), o1 5 10 (by omega)]
    exact h
  have v1 := vw_p T1 s1
  have wh := fun d => e_wordHere (d := d) (J := J) (R := R) v1
  -- behind the formula: the end
  have fin : ∀ (r : pR) (I0 I2 : tI), xP T n 0 0 0 r I0 I2 → I0 5 11 = I 5 11 → r.1 ≤ 9 → (r.1 = 0 → r.2.1 ≤ n ∧ r.2.2.length ≤ 1600) → ∃ I', am_E (d + 80) 17 88 [(0, .ref 8), (1, .int (am_i (tW T n 0)))] [] (I2, J, R, 138) = some (some (.int (am_i (tW T n 0))), (I', J, R, 138)) ∧ ((pB r (pZ T n)).1 = 0 → I' 5 10 = am_i 0 ∧ I' 5 11 = I 5 11 ∧ qfX (pB r (pZ T n)).2.2 I') ∧ ((pB r (pZ T n)).1 ≠ 0 → xFt (pB r (pZ T n)).1 (pB r (pZ T n)).2.1 I') ∧ ∀ q j, q ≠ 5 → q ≠ 8 → q ≠ 9 → I' q j = I2 q j := fun r I0 I2 hP h11 h9 hl => by
    obtain ⟨p1, p2, p3⟩ := hP
    by_cases q : r.1 = 0
    · obtain ⟨c1, c2, c3, c4, c5, c6, c7⟩ := p1 q
      obtain ⟨l1, l2⟩ := hl q
      have v2 := c1.2.2.2.1
      have ie : ∀ d, am_E (d + 1) 79 0 [(0, .ref 5)] [] (I2, J, R, 138) = some (some (.int (b01 (tK T n r.2.1 = 0))), (I2, J, R, 138)) := fun d => by
        rw [sg_X9_isEnd_0]
        have kb := tK_b (T := T) (n := n) (p := r.2.1)
        by_cases q0 : tK T n r.2.1 = 0
        · rw [q0] at v2
          have v2' : I2 5 5 = am_i 0 := v2
          rw [b01_t q0]
          simp (disch := first | assumption | omega) only [rX hx, ly_csx, ly_cax, ly_cf, ly_kd, ly_ln, ↓Bool.cond_decide, cond_true, cond_false, ↓bI_p, ↓bV_p, ↓bL_p, bIJ_s, bVJ_s, bLJ_s, ↓am_let_s, Nat.blt, Nat.ble, Bool.and_true, Bool.true_and, Bool.and_self, Int.cast_ofNat_Int, am_i_add, am_i_sub, am_i_mul, am_ok_i, am_i_cl, n_lt, n_le, n_eq, n_lt0, n_le0, n_0lt, n_0le, n_eq0, ne_eq, ↓reduceIte, not_true_eq_false, not_false_eq_true, and_true, true_and, and_false, false_and, eq_T, eq_F, lt_T, lt_F, le_T, le_F, qn_T, qn_F, and_F, b01_T, b01_F, e_isIn, Int32.toInt_toInt64, am_i_toInt, am_l_toInt, Int.toNat_natCast, Int.reduceToNat, Int.reduceAdd, Int.reduceSub, Int.reduceMul, Int.reduceNeg, Nat.reduceAdd, Nat.reduceMul, Nat.add_zero, Nat.mul_zero, Nat.zero_add, am_zb0, am_zb1, v2']
        · rw [b01_f q0]
          simp (disch := first | assumption | omega) only [rX hx, ly_csx, ly_cax, ly_cf, ly_kd, ly_ln, ↓Bool.cond_decide, cond_true, cond_false, ↓bI_p, ↓bV_p, ↓bL_p, bIJ_s, bVJ_s, bLJ_s, ↓am_let_s, Nat.blt, Nat.ble, Bool.and_true, Bool.true_and, Bool.and_self, Int.cast_ofNat_Int, am_i_add, am_i_sub, am_i_mul, am_ok_i, am_i_cl, n_lt, n_le, n_eq, n_lt0, n_le0, n_0lt, n_0le, n_eq0, ne_eq, ↓reduceIte, not_true_eq_false, not_false_eq_true, and_true, true_and, and_false, false_and, eq_T, eq_F, lt_T, lt_F, le_T, le_F, qn_T, qn_F, and_F, b01_T, b01_F, e_isIn, Int32.toInt_toInt64, am_i_toInt, am_l_toInt, Int.toNat_natCast, Int.reduceToNat, Int.reduceAdd, Int.reduceSub, Int.reduceMul, Int.reduceNeg, Nat.reduceAdd, Nat.reduceMul, Nat.add_zero, Nat.mul_zero, Nat.zero_add, am_zb0, am_zb1, v2]
      have eb : pB r (pZ T n) = ((pZ T n r.2.1).1, (pZ T n r.2.1).2.1, r.2.2 ++ (pZ T n r.2.1).2.2) := pB_0 q
      rw [eb]
      unfold pZ
      by_cases q0 : tK T n r.2.1 = 0
      · rw [if_pos q0]
        refine ⟨I2, ?_, fun _ => ⟨c1.2.2.2.2.1, by rw [c2, h11], ?_⟩, fun c => absurd rfl c, fun _ _ _ _ _ => rfl⟩
        · rw [sg_X3_question_88]
          simp (disch := first | assumption | omega) only [rX hx, ly_csx, ly_cax, ly_cf, ly_kd, ly_ln, ↓Bool.cond_decide, cond_true, cond_false, ↓bI_p, ↓bV_p, ↓bL_p, bIJ_s, bVJ_s, bLJ_s, ↓am_let_s, Nat.blt, Nat.ble, Bool.and_true, Bool.true_and, Bool.and_self, Int.cast_ofNat_Int, am_i_add, am_i_sub, am_i_mul, am_ok_i, am_i_cl, n_lt, n_le, n_eq, n_lt0, n_le0, n_0lt, n_0le, n_eq0, ne_eq, ↓reduceIte, not_true_eq_false, not_false_eq_true, and_true, true_and, and_false, false_and, eq_T, eq_F, lt_T, lt_F, le_T, le_F, qn_T, qn_F, and_F, b01_T, b01_F, e_isIn, Int32.toInt_toInt64, am_i_toInt, am_l_toInt, Int.toNat_natCast, Int.reduceToNat, Int.reduceAdd, Int.reduceSub, Int.reduceMul, Int.reduceNeg, Nat.reduceAdd, Nat.reduceMul, Nat.add_zero, Nat.mul_zero, Nat.zero_add, am_zb0, am_zb1, ie, b01_t q0, sg_X3_question_105]
        · show qfX (r.2.2 ++ []) I2
          rw [List.append_nil]
          exact ⟨l2, by rw [c3, Nat.zero_add], c4, fun k t e => by have := c6 k t e; rw [Nat.zero_add] at this; exact this⟩
      · rw [if_neg q0]
        have e4 : I2 5 4 = am_i (tAt T n r.2.1) := c1.2.2.1
        have fl := fun d => x_flH (d := d) (J := J) (R := R) c1.2.2.2.2.1
        refine ⟨_, ?_, fun c => absurd c (by show ¬ ((1 : Nat) = 0); decide), fun _ => ?_, fun q j a b c => fl_f (I := I2) (e := am_i 1) (v := I2 5 4) a⟩
        · rw [sg_X3_question_88]
          simp (disch := first | assumption | omega) only [rX hx, ly_csx, ly_cax, ly_cf, ly_kd, ly_ln, ↓Bool.cond_decide, cond_true, cond_false, ↓bI_p, ↓bV_p, ↓bL_p, bIJ_s, bVJ_s, bLJ_s, ↓am_let_s, Nat.blt, Nat.ble, Bool.and_true, Bool.true_and, Bool.and_self, Int.cast_ofNat_Int, am_i_add, am_i_sub, am_i_mul, am_ok_i, am_i_cl, n_lt, n_le, n_eq, n_lt0, n_le0, n_0lt, n_0le, n_eq0, ne_eq, ↓reduceIte, not_true_eq_false, not_false_eq_true, and_true, true_and, and_false, false_and, eq_T, eq_F, lt_T, lt_F, le_T, le_F, qn_T, qn_F, and_F, b01_T, b01_F, e_isIn, Int32.toInt_toInt64, am_i_toInt, am_l_toInt, Int.toNat_natCast, Int.reduceToNat, Int.reduceAdd, Int.reduceSub, Int.reduceMul, Int.reduceNeg, Nat.reduceAdd, Nat.reduceMul, Nat.add_zero, Nat.mul_zero, Nat.zero_add, am_zb0, am_zb1, ie, b01_f q0, fl, sg_X3_question_105]
        · rw [e4]
          exact fl_x (e := 1)
    · rw [pB_n q]
      have hx5 := (p2 q).1
      have v2 := vw_F hx5
      have ie := fun d => e_isEnd (d := d) (J := J) (R := R) v2
      have fl := fun d => x_flHF (d := d) (J := J) (R := R) hx5.2.1 q h9
      refine ⟨I2, ?_, fun c => absurd c q, fun _ => hx5, fun _ _ _ _ _ => rfl⟩
      rw [sg_X3_question_88]
      simp (disch := first | assumption | omega) only [rX hx, ly_csx, ly_cax, ly_cf, ly_kd, ly_ln, ↓Bool.cond_decide, cond_true, cond_false, ↓bI_p, ↓bV_p, ↓bL_p, bIJ_s, bVJ_s, bLJ_s, ↓am_let_s, Nat.blt, Nat.ble, Bool.and_true, Bool.true_and, Bool.and_self, Int.cast_ofNat_Int, am_i_add, am_i_sub, am_i_mul, am_ok_i, am_i_cl, n_lt, n_le, n_eq, n_lt0, n_le0, n_0lt, n_0le, n_eq0, ne_eq, ↓reduceIte, not_true_eq_false, not_false_eq_true, and_true, true_and, and_false, false_and, eq_T, eq_F, lt_T, lt_F, le_T, le_F, qn_T, qn_F, and_F, b01_T, b01_F, e_isIn, Int32.toInt_toInt64, am_i_toInt, am_l_toInt, Int.toNat_natCast, Int.reduceToNat, Int.reduceAdd, Int.reduceSub, Int.reduceMul, Int.reduceNeg, Nat.reduceAdd, Nat.reduceMul, Nat.add_zero, Nat.mul_zero, Nat.zero_add, am_zb0, am_zb1, ie, b01_f (show ¬ (4 = 0) by decide), fl, sg_X3_question_105]
  have cl : ∀ d, am_E (d + 1) 14 0 [(0, .ref 8)] [] (I, J, R, 138) = some (none, (am_up (am_up I 8 2 (am_i 0)) 8 3 (am_i 0), J, R, 138)) := fun d => by
    rw [sg_X3_clear_0]
    simp (disch := first | assumption | omega) only [rX hx, ly_csx, ly_cax, ly_cf, ly_kd, ly_ln, ↓Bool.cond_decide, cond_true, cond_false, ↓bI_p, ↓bV_p, ↓bL_p, bIJ_s, bVJ_s, bLJ_s, ↓am_let_s, Nat.blt, Nat.ble, Bool.and_true, Bool.true_and, Bool.and_self, Int.cast_ofNat_Int, am_i_add, am_i_sub, am_i_mul, am_ok_i, am_i_cl, n_lt, n_le, n_eq, n_lt0, n_le0, n_0lt, n_0le, n_eq0, ne_eq, ↓reduceIte, not_true_eq_false, not_false_eq_true, and_true, true_and, and_false, false_and, eq_T, eq_F, lt_T, lt_F, le_T, le_F, qn_T, qn_F, and_F, b01_T, b01_F, e_isIn, Int32.toInt_toInt64, am_i_toInt, am_l_toInt, Int.toNat_natCast, Int.reduceToNat, Int.reduceAdd, Int.reduceSub, Int.reduceMul, Int.reduceNeg, Nat.reduceAdd, Nat.reduceMul, Nat.add_zero, Nat.mul_zero, Nat.zero_add, am_zb0, am_zb1]
  have bg : ∀ d, am_E (d + 1) 15 0 [(0, .ref 8), (1, .int (am_i 3))] [] (am_up (am_up I 8 2 (am_i 0)) 8 3 (am_i 0), J, R, 138) = some (none, (I1, J, R, 138)) := fun d => by
    rw [sg_X3_begin_0, hI1]
    simp (disch := first | assumption | omega) only [rX hx, ly_csx, ly_cax, ly_cf, ly_kd, ly_ln, ↓Bool.cond_decide, cond_true, cond_false, ↓bI_p, ↓bV_p, ↓bL_p, bIJ_s, bVJ_s, bLJ_s, ↓am_let_s, Nat.blt, Nat.ble, Bool.and_true, Bool.true_and, Bool.and_self, Int.cast_ofNat_Int, am_i_add, am_i_sub, am_i_mul, am_ok_i, am_i_cl, n_lt, n_le, n_eq, n_lt0, n_le0, n_0lt, n_0le, n_eq0, ne_eq, ↓reduceIte, not_true_eq_false, not_false_eq_true, and_true, true_and, and_false, false_and, eq_T, eq_F, lt_T, lt_F, le_T, le_F, qn_T, qn_F, and_F, b01_T, b01_F, e_isIn, Int32.toInt_toInt64, am_i_toInt, am_l_toInt, Int.toNat_natCast, Int.reduceToNat, Int.reduceAdd, Int.reduceSub, Int.reduceMul, Int.reduceNeg, Nat.reduceAdd, Nat.reduceMul, Nat.add_zero, Nat.mul_zero, Nat.zero_add, am_zb0, am_zb1]
  have go := x_G (J := J) (T := T) (n := n) (so := 3) hx (by omega) f
  -- a word that begins a question
  have word : ∀ (pc m md : Nat), (∀ I2 I3 : tI, am_E (d + 79) 73 0 [(0, .ref 5)] [] (I1, J, R, 138) = some (none, (I2, J, R, 138)) → am_E (d + 79) m 0 [(0, .ref 8)] [] (I2, J, R, 138) = some (none, (I3, J, R, 138)) → am_E (d + 80) 17 pc [(0, .ref 8), (1, .int (am_i (tW T n 0)))] [] (I1, J, R, 138) = am_E (d + 80) 17 88 [(0, .ref 8), (1, .int (am_i (tW T n 0)))] [] (I3, J, R, 138)) → 0 ≤ tW T n 0 → (md = 8 ∧ m = 20) ∨ (md = 3 ∧ m = 24) → ∃ I', am_E (d + 80) 17 pc [(0, .ref 8), (1, .int (am_i (tW T n 0)))] [] (I1, J, R, 138) = some (some (.int (am_i (tW T n 0))), (I', J, R, 138)) ∧ ((pB (pG T n 3 f md 0 (tE T n 0)) (pZ T n)).1 = 0 → I' 5 10 = am_i 0 ∧ I' 5 11 = I 5 11 ∧ qfX (pB (pG T n 3 f md 0 (tE T n 0)) (pZ T n)).2.2 I') ∧ ((pB (pG T n 3 f md 0 (tE T n 0)) (pZ T n)).1 ≠ 0 → xFt (pB (pG T n 3 f md 0 (tE T n 0)) (pZ T n)).1 (pB (pG T n 3 f md 0 (tE T n 0)) (pZ T n)).2.1 I') ∧ ∀ q j, q ≠ 5 → q ≠ 8 → q ≠ 9 → I' q j = I q j := fun pc m md hpc w0 hmd => by
    have te := tE_s (T := T) (n := n) (p := 0) (by omega) (tW_0 w0)
    obtain ⟨I2, a1, a2, a3, a4⟩ := x_go (d := d + 75) (J := J) hx T1 (by omega) s1 (tW_4 w0)
    have T2 : txX T n I2 R := txX_c T1 (fun q k e => a4 q k (by omega))
    have f2 : fS 3 0 0 0 I2 := ⟨by rw [a4 _ _ (by omega)]; exact f1.1, by rw [a4 _ _ (by omega)]; exact f1.2.1, by rw [a4 _ _ (by omega)]; exact f1.2.2.1, by rw [a4 _ _ (by omega)]; exact f1.2.2.2⟩
    have md9 : md ≤ 9 := by omega
    have nR : mdR md = false := by rcases hmd with ⟨rfl, -⟩ | ⟨rfl, -⟩ <;> rfl
    have fu : 10 * (n - tE T n 0) + (if mdR md = true then 0 else md) + 1 ≤ f := by rw [nR]; show 10 * (n - tE T n 0) + md + 1 ≤ f; omega
    have dq : 10 * (6 - 0) + mdQ md ≤ d + 79 := by
      rcases hmd with ⟨rfl, -⟩ | ⟨rfl, -⟩
      · show 60 + 15 ≤ d + 79; omega
      · show 60 + 11 ≤ d + 79; omega
    obtain ⟨I3, b1, b2⟩ := go md 0 (tE T n 0) (d + 79) 0 0 0 I2 md9 (by omega) te.2 fu dq T2 a2 f2 (by omega) (by omega) (by omega)
    have ge := pG_e (T := T) (so := 3) (f := f) (md := md) (o := 0) (p := tE T n 0) md9 (by omega) te.2 fu
    have n16 := hT.1
    obtain ⟨I4, c1, c2, c3, c4⟩ := fin (pG T n 3 f md 0 (tE T n 0)) I2 I3 b2 (by rw [a3]; exact o1 5 11 (by omega)) (by omega) (fun q => by obtain ⟨g1, g2, g3⟩ := ge.2 q; omega)
    refine ⟨I4, ?_, c2, c3, fun q j x y z => ?_⟩
    · have b1' : am_E (d + 79) m 0 [(0, .ref 8)] [] (I2, J, R, 138) = some (none, (I3, J, R, 138)) := by
        rcases hmd with ⟨rfl, rfl⟩ | ⟨rfl, rfl⟩ <;> exact b1
      rw [← c1]
      exact hpc I2 I3 a1 b1'
    · rw [c4 q j x y z, b2.2.2.2 q j x y z, a4 q j x, o1 q j y]
  by_cases q1 : 26 ≤ tW T n 0 ∧ tW T n 0 ≤ 28
  · have e : pQ T n f = pB (pG T n 3 f 8 0 (tE T n 0)) (pZ T n) := if_pos q1
    rw [e]
    obtain ⟨I', g1, g2, g3, g4⟩ := word 35 20 8 (fun I2 I3 z1 z2 => by
      rw [sg_X3_question_35]
      simp (disch := first | assumption | omega) only [rX hx, ly_csx, ly_cax, ly_cf, ly_kd, ly_ln, ↓Bool.cond_decide, cond_true, cond_false, ↓bI_p, ↓bV_p, ↓bL_p, bIJ_s, bVJ_s, bLJ_s, ↓am_let_s, Nat.blt, Nat.ble, Bool.and_true, Bool.true_and, Bool.and_self, Int.cast_ofNat_Int, am_i_add, am_i_sub, am_i_mul, am_ok_i, am_i_cl, n_lt, n_le, n_eq, n_lt0, n_le0, n_0lt, n_0le, n_eq0, ne_eq, ↓reduceIte, not_true_eq_false, not_false_eq_true, and_true, true_and, and_false, false_and, eq_T, eq_F, lt_T, lt_F, le_T, le_F, qn_T, qn_F, and_F, b01_T, b01_F, e_isIn, Int32.toInt_toInt64, am_i_toInt, am_l_toInt, Int.toNat_natCast, Int.reduceToNat, Int.reduceAdd, Int.reduceSub, Int.reduceMul, Int.reduceNeg, Nat.reduceAdd, Nat.reduceMul, Nat.add_zero, Nat.mul_zero, Nat.zero_add, am_zb0, am_zb1, z1, z2]) (by omega) (Or.inl ⟨rfl, rfl⟩)
    refine ⟨I', ?_, g2, g3, g4⟩
    rw [← g1, sg_X3_question_0]
    by_cases w6 : tW T n 0 = 26
    · simp (disch := first | assumption | omega) only [rX hx, ly_csx, ly_cax, ly_cf, ly_kd, ly_ln, ↓Bool.cond_decide, cond_true, cond_false, ↓bI_p, ↓bV_p, ↓bL_p, bIJ_s, bVJ_s, bLJ_s, ↓am_let_s, Nat.blt, Nat.ble, Bool.and_true, Bool.true_and, Bool.and_self, Int.cast_ofNat_Int, am_i_add, am_i_sub, am_i_mul, am_ok_i, am_i_cl, n_lt, n_le, n_eq, n_lt0, n_le0, n_0lt, n_0le, n_eq0, ne_eq, ↓reduceIte, not_true_eq_false, not_false_eq_true, and_true, true_and, and_false, false_and, eq_T, eq_F, lt_T, lt_F, le_T, le_F, qn_T, qn_F, and_F, b01_T, b01_F, e_isIn, Int32.toInt_toInt64, am_i_toInt, am_l_toInt, Int.toNat_natCast, Int.reduceToNat, Int.reduceAdd, Int.reduceSub, Int.reduceMul, Int.reduceNeg, Nat.reduceAdd, Nat.reduceMul, Nat.add_zero, Nat.mul_zero, Nat.zero_add, am_zb0, am_zb1, cl, bg, wh]
    · by_cases w7 : tW T n 0 = 27
      · simp (disch := first | assumption | omega) only [rX hx, ly_csx, ly_cax, ly_cf, ly_kd, ly_ln, ↓Bool.cond_decide, cond_true, cond_false, ↓bI_p, ↓bV_p, ↓bL_p, bIJ_s, bVJ_s, bLJ_s, ↓am_let_s, Nat.blt, Nat.ble, Bool.and_true, Bool.true_and, Bool.and_self, Int.cast_ofNat_Int, am_i_add, am_i_sub, am_i_mul, am_ok_i, am_i_cl, n_lt, n_le, n_eq, n_lt0, n_le0, n_0lt, n_0le, n_eq0, ne_eq, ↓reduceIte, not_true_eq_false, not_false_eq_true, and_true, true_and, and_false, false_and, eq_T, eq_F, lt_T, lt_F, le_T, le_F, qn_T, qn_F, and_F, b01_T, b01_F, e_isIn, Int32.toInt_toInt64, am_i_toInt, am_l_toInt, Int.toNat_natCast, Int.reduceToNat, Int.reduceAdd, Int.reduceSub, Int.reduceMul, Int.reduceNeg, Nat.reduceAdd, Nat.reduceMul, Nat.add_zero, Nat.mul_zero, Nat.zero_add, am_zb0, am_zb1, cl, bg, wh]
      · have w8 : tW T n 0 = 28 := by omega
        simp (disch := first | assumption | omega) only [rX hx, ly_csx, ly_cax, ly_cf, ly_kd, ly_ln, ↓Bool.cond_decide, cond_true, cond_false, ↓bI_p, ↓bV_p, ↓bL_p, bIJ_s, bVJ_s, bLJ_s, ↓am_let_s, Nat.blt, Nat.ble, Bool.and_true, Bool.true_and, Bool.and_self, Int.cast_ofNat_Int, am_i_add, am_i_sub, am_i_mul, am_ok_i, am_i_cl, n_lt, n_le, n_eq, n_lt0, n_le0, n_0lt, n_0le, n_eq0, ne_eq, ↓reduceIte, not_true_eq_false, not_false_eq_true, and_true, true_and, and_false, false_and, eq_T, eq_F, lt_T, lt_F, le_T, le_F, qn_T, qn_F, and_F, b01_T, b01_F, e_isIn, Int32.toInt_toInt64, am_i_toInt, am_l_toInt, Int.toNat_natCast, Int.reduceToNat, Int.reduceAdd, Int.reduceSub, Int.reduceMul, Int.reduceNeg, Nat.reduceAdd, Nat.reduceMul, Nat.add_zero, Nat.mul_zero, Nat.zero_add, am_zb0, am_zb1, cl, bg, wh]
  · by_cases q2 : 29 ≤ tW T n 0 ∧ tW T n 0 ≤ 31
    · have e : pQ T n f = pB (pG T n 3 f 3 0 (tE T n 0)) (pZ T n) := by
        unfold pQ
        rw [if_neg q1, if_pos q2]
      rw [e]
      obtain ⟨I', g1, g2, g3, g4⟩ := word 67 24 3 (fun I2 I3 z1 z2 => by
        rw [sg_X3_question_67]
        simp (disch := first | assumption | omega) only [rX hx, ly_csx, ly_cax, ly_cf, ly_kd, ly_ln, ↓Bool.cond_decide, cond_true, cond_false, ↓bI_p, ↓bV_p, ↓bL_p, bIJ_s, bVJ_s, bLJ_s, ↓am_let_s, Nat.blt, Nat.ble, Bool.and_true, Bool.true_and, Bool.and_self, Int.cast_ofNat_Int, am_i_add, am_i_sub, am_i_mul, am_ok_i, am_i_cl, n_lt, n_le, n_eq, n_lt0, n_le0, n_0lt, n_0le, n_eq0, ne_eq, ↓reduceIte, not_true_eq_false, not_false_eq_true, and_true, true_and, and_false, false_and, eq_T, eq_F, lt_T, lt_F, le_T, le_F, qn_T, qn_F, and_F, b01_T, b01_F, e_isIn, Int32.toInt_toInt64, am_i_toInt, am_l_toInt, Int.toNat_natCast, Int.reduceToNat, Int.reduceAdd, Int.reduceSub, Int.reduceMul, Int.reduceNeg, Nat.reduceAdd, Nat.reduceMul, Nat.add_zero, Nat.mul_zero, Nat.zero_add, am_zb0, am_zb1, z1, z2]) (by omega) (Or.inr ⟨rfl, rfl⟩)
      refine ⟨I', ?_, g2, g3, g4⟩
      rw [← g1, sg_X3_question_0]
      by_cases w6 : tW T n 0 = 29
      · simp (disch := first | assumption | omega) only [rX hx, ly_csx, ly_cax, ly_cf, ly_kd, ly_ln, ↓Bool.cond_decide, cond_true, cond_false, ↓bI_p, ↓bV_p, ↓bL_p, bIJ_s, bVJ_s, bLJ_s, ↓am_let_s, Nat.blt, Nat.ble, Bool.and_true, Bool.true_and, Bool.and_self, Int.cast_ofNat_Int, am_i_add, am_i_sub, am_i_mul, am_ok_i, am_i_cl, n_lt, n_le, n_eq, n_lt0, n_le0, n_0lt, n_0le, n_eq0, ne_eq, ↓reduceIte, not_true_eq_false, not_false_eq_true, and_true, true_and, and_false, false_and, eq_T, eq_F, lt_T, lt_F, le_T, le_F, qn_T, qn_F, and_F, b01_T, b01_F, e_isIn, Int32.toInt_toInt64, am_i_toInt, am_l_toInt, Int.toNat_natCast, Int.reduceToNat, Int.reduceAdd, Int.reduceSub, Int.reduceMul, Int.reduceNeg, Nat.reduceAdd, Nat.reduceMul, Nat.add_zero, Nat.mul_zero, Nat.zero_add, am_zb0, am_zb1, cl, bg, wh]
      · by_cases w7 : tW T n 0 = 30
        · simp (disch := first | assumption | omega) only [rX hx, ly_csx, ly_cax, ly_cf, ly_kd, ly_ln, ↓Bool.cond_decide, cond_true, cond_false, ↓bI_p, ↓bV_p, ↓bL_p, bIJ_s, bVJ_s, bLJ_s, ↓am_let_s, Nat.blt, Nat.ble, Bool.and_true, Bool.true_and, Bool.and_self, Int.cast_ofNat_Int, am_i_add, am_i_sub, am_i_mul, am_ok_i, am_i_cl, n_lt, n_le, n_eq, n_lt0, n_le0, n_0lt, n_0le, n_eq0, ne_eq, ↓reduceIte, not_true_eq_false, not_false_eq_true, and_true, true_and, and_false, false_and, eq_T, eq_F, lt_T, lt_F, le_T, le_F, qn_T, qn_F, and_F, b01_T, b01_F, e_isIn, Int32.toInt_toInt64, am_i_toInt, am_l_toInt, Int.toNat_natCast, Int.reduceToNat, Int.reduceAdd, Int.reduceSub, Int.reduceMul, Int.reduceNeg, Nat.reduceAdd, Nat.reduceMul, Nat.add_zero, Nat.mul_zero, Nat.zero_add, am_zb0, am_zb1, cl, bg, wh]
        · have w8 : tW T n 0 = 31 := by omega
          simp (disch := first | assumption | omega) only [rX hx, ly_csx, ly_cax, ly_cf, ly_kd, ly_ln, ↓Bool.cond_decide, cond_true, cond_false, ↓bI_p, ↓bV_p, ↓bL_p, bIJ_s, bVJ_s, bLJ_s, ↓am_let_s, Nat.blt, Nat.ble, Bool.and_true, Bool.true_and, Bool.and_self, Int.cast_ofNat_Int, am_i_add, am_i_sub, am_i_mul, am_ok_i, am_i_cl, n_lt, n_le, n_eq, n_lt0, n_le0, n_0lt, n_0le, n_eq0, ne_eq, ↓reduceIte, not_true_eq_false, not_false_eq_true, and_true, true_and, and_false, false_and, eq_T, eq_F, lt_T, lt_F, le_T, le_F, qn_T, qn_F, and_F, b01_T, b01_F, e_isIn, Int32.toInt_toInt64, am_i_toInt, am_l_toInt, Int.toNat_natCast, Int.reduceToNat, Int.reduceAdd, Int.reduceSub, Int.reduceMul, Int.reduceNeg, Nat.reduceAdd, Nat.reduceMul, Nat.add_zero, Nat.mul_zero, Nat.zero_add, am_zb0, am_zb1, cl, bg, wh]
    · have e : pQ T n f = (1, tAt T n 0, []) := by
        unfold pQ
        rw [if_neg q1, if_neg q2]
      rw [e]
      have fl := fun d => x_flH (d := d) (J := J) (R := R) s1.2.2.2.2.1
      have e4 : I1 5 4 = am_i (tAt T n 0) := s1.2.2.1
      obtain ⟨I2, hI2⟩ : ∃ I2, I2 = am_up (am_up (am_up I1 5 10 (am_i 1)) 5 11 (I1 5 4)) 5 5 (am_i 4) := ⟨_, rfl⟩
      have hx5 : xFt 1 (tAt T n 0) I2 := by rw [hI2, e4]; exact fl_x (e := 1)
      have v2 := vw_F hx5
      have ie := fun d => e_isEnd (d := d) (J := J) (R := R) v2
      have fl2 := fun d => x_flHF (d := d) (J := J) (R := R) hx5.2.1 (by decide) (by decide)
      rw [← hI2] at fl
      refine ⟨I2, ?_, fun c => absurd c (by show ¬ ((1 : Nat) = 0); decide), fun _ => hx5, fun q j x y z => ?_⟩
      · rw [sg_X3_question_0]
        have w1 : ¬ tW T n 0 = 26 := by omega
        have w2 : ¬ tW T n 0 = 27 := by omega
        have w3 : ¬ tW T n 0 = 28 := by omega
        have w4 : ¬ tW T n 0 = 29 := by omega
        have w5 : ¬ tW T n 0 = 30 := by omega
        have w6 : ¬ tW T n 0 = 31 := by omega
        simp (disch := first | assumption | omega) only [rX hx, ly_csx, ly_cax, ly_cf, ly_kd, ly_ln, ↓Bool.cond_decide, cond_true, cond_false, ↓bI_p, ↓bV_p, ↓bL_p, bIJ_s, bVJ_s, bLJ_s, ↓am_let_s, Nat.blt, Nat.ble, Bool.and_true, Bool.true_and, Bool.and_self, Int.cast_ofNat_Int, am_i_add, am_i_sub, am_i_mul, am_ok_i, am_i_cl, n_lt, n_le, n_eq, n_lt0, n_le0, n_0lt, n_0le, n_eq0, ne_eq, ↓reduceIte, not_true_eq_false, not_false_eq_true, and_true, true_and, and_false, false_and, eq_T, eq_F, lt_T, lt_F, le_T, le_F, qn_T, qn_F, and_F, b01_T, b01_F, e_isIn, Int32.toInt_toInt64, am_i_toInt, am_l_toInt, Int.toNat_natCast, Int.reduceToNat, Int.reduceAdd, Int.reduceSub, Int.reduceMul, Int.reduceNeg, Nat.reduceAdd, Nat.reduceMul, Nat.add_zero, Nat.mul_zero, Nat.zero_add, am_zb0, am_zb1, cl, bg, wh, fl, sg_X3_question_88, ie, b01_f (show ¬ (4 = 0) by decide), fl2, sg_X3_question_105]
      · rw [hI2, fl_f x, o1 q j y]
end XQ
