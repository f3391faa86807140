/-! ===== the reference tells codes ===== -/
def mS1 (q k : Nat) : Bool := q == 64 && k == 101
def frJ (J J' : tJ) : Prop := ∀ q k, q ≠ 136 → J' q k = J q k
theorem frJ_r (J : tJ) : frJ J J := fun _ _ _ => rfl
theorem frJ_t {J J' J'' : tJ} (h1 : frJ J J') (h2 : frJ J' J'') : frJ J J'' := fun q k h => (h2 q k h).trans (h1 q k h)
theorem frJ_u {J J' : tJ} {L : Nat} {v : Int64} (h1 : frJ J J') : frJ J (am_up J' 136 L v) := fun q k h => by
  rw [am_up_o (fun e => h e.1)]
  exact h1 q k h
theorem mS1_u {I I' : tI} {v : Int32} (h1 : fr mS1 I I') : fr mS1 I (am_up I' 64 101 v) := fun q k h => by
  rw [am_up_o (fun e => by rw [e.1, e.2] at h; cases h)]
  exact h1 q k h
theorem stB_u {J : tJ} {r : List Int} {v : Int} (h : stB (J 136) r) : stB (am_up J 136 r.length (am_l v) 136) (v :: r) :=
  ⟨am_up_e, stB_c h (fun k hk => am_up_o (fun e => by omega))⟩
theorem wno_b (w : Nat) : 0 ≤ wnoM w ∧ wnoM w ≤ 8 := by
  unfold wnoM
  split <;> omega
def mG (R : tR) (v : Int) (I0 : tI) (J0 : tJ) (E : am_R) : Prop := ∃ I' J', E = some (some (.long (am_l v)), (I', J', R, 138)) ∧ fr mS1 I0 I' ∧ frJ J0 J'
section MTELL
variable {d : Nat} {I : tI} {J : tJ} {R : tR} {M : am_Mem}
theorem m_puts (hm : st_Rm R) {L : Nat} {v : Int64} (h : I 64 101 = am_i L) (hL : L ≤ 1600) : am_E (d + 1) 280 0 [(0, .ref 64), (1, .long v)] [] (I, J, R, 138) = some (none, (am_up I 64 101 (am_i (L + 1 : Nat)), am_up J 136 L v, R, 138)) := by
  rw [sg_X12_qPuts_0]
  simp (disch := first | assumption | omega) only [rM hm, ly_csm, ly_cam, ly_cf, ly_kd, ly_ln, ↓Bool.cond_decide, cond_true, cond_false, ↓bI_p, ↓bV_p, ↓bL_p, bIJ_s, bVJ_s, bLJ_s, ↓am_let_s, Nat.blt, Nat.ble, Bool.and_true, Bool.true_and, Bool.and_self, Int.cast_ofNat_Int, am_i_add, am_i_sub, am_i_mul, am_ok_i, am_i_cl, n_lt, n_le, n_eq, n_lt0, n_le0, n_0lt, n_0le, n_eq0, ne_eq, ↓reduceIte, not_true_eq_false, not_false_eq_true, and_true, true_and, and_false, false_and, eq_T, eq_F, lt_T, lt_F, le_T, le_F, qn_T, qn_F, and_F, b01_T, b01_F, e_isIn, Int32.toInt_toInt64, am_i_toInt, am_l_toInt, Int.toNat_natCast, Int.reduceToNat, Int.reduceAdd, Int.reduceSub, Int.reduceMul, Int.reduceNeg, Nat.reduceAdd, Nat.reduceMul, Nat.add_zero, Nat.mul_zero, Nat.zero_add, am_zb0, am_zb1, h, am_i_s]
theorem m_clip (v : Int) (h1 : -9000000000000000000 ≤ v) (h2 : v ≤ 9000000000000000000) : am_E (d + 1) 278 0 [(0, .long (am_l v))] [] M = some (some (.long (am_l (cutZ v))), M) := by
  rw [sg_X12_qClip_0]
  unfold cutZ
  by_cases q1 : 1000000 < v
  · simp (disch := first | assumption | omega) only [am_i_add, am_i_sub, am_i_mul, am_ok_i, am_i_cl, n_lt, n_le, n_eq, n_lt0, n_le0, n_0lt, n_0le, n_eq0, ne_eq, ↓reduceIte, not_true_eq_false, not_false_eq_true, and_true, true_and, and_false, false_and, eq_T, eq_F, lt_T, lt_F, le_T, le_F, qn_T, qn_F, and_F, b01_T, b01_F, e_isIn, Int32.toInt_toInt64, am_i_toInt, am_l_toInt, Int.toNat_natCast, Int.reduceToNat, Int.reduceAdd, Int.reduceSub, Int.reduceMul, Int.reduceNeg, Nat.reduceAdd, Nat.reduceMul, Nat.add_zero, Nat.mul_zero, Nat.zero_add, am_zb0, am_zb1, ↓Bool.cond_decide, cond_true, cond_false, lc_le, lc_ge, l_toi]
  · by_cases q2 : v < -1000000
    · simp (disch := first | assumption | omega) only [am_i_add, am_i_sub, am_i_mul, am_ok_i, am_i_cl, n_lt, n_le, n_eq, n_lt0, n_le0, n_0lt, n_0le, n_eq0, ne_eq, ↓reduceIte, not_true_eq_false, not_false_eq_true, and_true, true_and, and_false, false_and, eq_T, eq_F, lt_T, lt_F, le_T, le_F, qn_T, qn_F, and_F, b01_T, b01_F, e_isIn, Int32.toInt_toInt64, am_i_toInt, am_l_toInt, Int.toNat_natCast, Int.reduceToNat, Int.reduceAdd, Int.reduceSub, Int.reduceMul, Int.reduceNeg, Nat.reduceAdd, Nat.reduceMul, Nat.add_zero, Nat.mul_zero, Nat.zero_add, am_zb0, am_zb1, ↓Bool.cond_decide, cond_true, cond_false, lc_le, lc_ge, l_toi]
    · simp (disch := first | assumption | omega) only [am_i_add, am_i_sub, am_i_mul, am_ok_i, am_i_cl, n_lt, n_le, n_eq, n_lt0, n_le0, n_0lt, n_0le, n_eq0, ne_eq, ↓reduceIte, not_true_eq_false, not_false_eq_true, and_true, true_and, and_false, false_and, eq_T, eq_F, lt_T, lt_F, le_T, le_F, qn_T, qn_F, and_F, b01_T, b01_F, e_isIn, Int32.toInt_toInt64, am_i_toInt, am_l_toInt, Int.toNat_natCast, Int.reduceToNat, Int.reduceAdd, Int.reduceSub, Int.reduceMul, Int.reduceNeg, Nat.reduceAdd, Nat.reduceMul, Nat.add_zero, Nat.mul_zero, Nat.zero_add, am_zb0, am_zb1, ↓Bool.cond_decide, cond_true, cond_false, lc_le, lc_ge, l_toi]
theorem m_floor {a b : Int} (a1 : -1000000 ≤ a) (a2 : a ≤ 1000000) (b1 : -1000000 ≤ b) (b2 : b ≤ 1000000) : am_E (d + 1) 279 0 [(0, .long (am_l a)), (2, .long (am_l b))] [] M = some (some (.long (am_l (op2 47 a b))), M) := by
  rw [sg_X12_qFloor_0]
  by_cases q0 : b = 0
  · subst q0
    simp (disch := first | assumption | omega) only [am_i_add, am_i_sub, am_i_mul, am_ok_i, am_i_cl, n_lt, n_le, n_eq, n_lt0, n_le0, n_0lt, n_0le, n_eq0, ne_eq, ↓reduceIte, not_true_eq_false, not_false_eq_true, and_true, true_and, and_false, false_and, eq_T, eq_F, lt_T, lt_F, le_T, le_F, qn_T, qn_F, and_F, b01_T, b01_F, e_isIn, Int32.toInt_toInt64, am_i_toInt, am_l_toInt, Int.toNat_natCast, Int.reduceToNat, Int.reduceAdd, Int.reduceSub, Int.reduceMul, Int.reduceNeg, Nat.reduceAdd, Nat.reduceMul, Nat.add_zero, Nat.mul_zero, Nat.zero_add, am_zb0, am_zb1, ↓Bool.cond_decide, cond_true, cond_false, op2, lc_eq]
  · have t1 : -1000000 ≤ a.tdiv b ∧ a.tdiv b ≤ 1000000 := by
      have := Int.natAbs_tdiv_le_natAbs a b
      omega
    have t2 : (a.tdiv b * b).natAbs ≤ a.natAbs := by
      rw [Int.natAbs_mul, Int.natAbs_tdiv]
      exact Nat.div_mul_le_self _ _
    have e : op2 47 a b = a.fdiv b := by simp [op2, q0]
    rw [e]
    by_cases q1 : a - a.tdiv b * b = 0
    · rw [fd_0 q1]
      simp (disch := first | assumption | omega) only [am_i_add, am_i_sub, am_i_mul, am_ok_i, am_i_cl, n_lt, n_le, n_eq, n_lt0, n_le0, n_0lt, n_0le, n_eq0, ne_eq, ↓reduceIte, not_true_eq_false, not_false_eq_true, and_true, true_and, and_false, false_and, eq_T, eq_F, lt_T, lt_F, le_T, le_F, qn_T, qn_F, and_F, b01_T, b01_F, e_isIn, Int32.toInt_toInt64, am_i_toInt, am_l_toInt, Int.toNat_natCast, Int.reduceToNat, Int.reduceAdd, Int.reduceSub, Int.reduceMul, Int.reduceNeg, Nat.reduceAdd, Nat.reduceMul, Nat.add_zero, Nat.mul_zero, Nat.zero_add, am_zb0, am_zb1, ↓Bool.cond_decide, cond_true, cond_false, ↓am_let_s, lc_eq, lc_ge, lnz, l_div, am_l_mul, am_l_sub, sg_X12_qFloor_53]
    · by_cases q2 : 0 ≤ a <;> by_cases q3 : 0 ≤ b
      · rw [fd_s (by omega)]
        simp (disch := first | assumption | omega) only [am_i_add, am_i_sub, am_i_mul, am_ok_i, am_i_cl, n_lt, n_le, n_eq, n_lt0, n_le0, n_0lt, n_0le, n_eq0, ne_eq, ↓reduceIte, not_true_eq_false, not_false_eq_true, and_true, true_and, and_false, false_and, eq_T, eq_F, lt_T, lt_F, le_T, le_F, qn_T, qn_F, and_F, b01_T, b01_F, e_isIn, Int32.toInt_toInt64, am_i_toInt, am_l_toInt, Int.toNat_natCast, Int.reduceToNat, Int.reduceAdd, Int.reduceSub, Int.reduceMul, Int.reduceNeg, Nat.reduceAdd, Nat.reduceMul, Nat.add_zero, Nat.mul_zero, Nat.zero_add, am_zb0, am_zb1, ↓Bool.cond_decide, cond_true, cond_false, ↓am_let_s, lc_eq, lc_ge, lnz, l_div, am_l_mul, am_l_sub, sg_X12_qFloor_53]
      · rw [fd_n q0 q1 (by omega)]
        simp (disch := first | assumption | omega) only [am_i_add, am_i_sub, am_i_mul, am_ok_i, am_i_cl, n_lt, n_le, n_eq, n_lt0, n_le0, n_0lt, n_0le, n_eq0, ne_eq, ↓reduceIte, not_true_eq_false, not_false_eq_true, and_true, true_and, and_false, false_and, eq_T, eq_F, lt_T, lt_F, le_T, le_F, qn_T, qn_F, and_F, b01_T, b01_F, e_isIn, Int32.toInt_toInt64, am_i_toInt, am_l_toInt, Int.toNat_natCast, Int.reduceToNat, Int.reduceAdd, Int.reduceSub, Int.reduceMul, Int.reduceNeg, Nat.reduceAdd, Nat.reduceMul, Nat.add_zero, Nat.mul_zero, Nat.zero_add, am_zb0, am_zb1, ↓Bool.cond_decide, cond_true, cond_false, ↓am_let_s, lc_eq, lc_ge, lnz, l_div, am_l_mul, am_l_sub, sg_X12_qFloor_53]
      · rw [fd_n q0 q1 (by omega)]
        simp (disch := first | assumption | omega) only [am_i_add, am_i_sub, am_i_mul, am_ok_i, am_i_cl, n_lt, n_le, n_eq, n_lt0, n_le0, n_0lt, n_0le, n_eq0, ne_eq, ↓reduceIte, not_true_eq_false, not_false_eq_true, and_true, true_and, and_false, false_and, eq_T, eq_F, lt_T, lt_F, le_T, le_F, qn_T, qn_F, and_F, b01_T, b01_F, e_isIn, Int32.toInt_toInt64, am_i_toInt, am_l_toInt, Int.toNat_natCast, Int.reduceToNat, Int.reduceAdd, Int.reduceSub, Int.reduceMul, Int.reduceNeg, Nat.reduceAdd, Nat.reduceMul, Nat.add_zero, Nat.mul_zero, Nat.zero_add, am_zb0, am_zb1, ↓Bool.cond_decide, cond_true, cond_false, ↓am_let_s, lc_eq, lc_ge, lnz, l_div, am_l_mul, am_l_sub, sg_X12_qFloor_53]
      · rw [fd_s (by omega)]
        simp (disch := first | assumption | omega) only [am_i_add, am_i_sub, am_i_mul, am_ok_i, am_i_cl, n_lt, n_le, n_eq, n_lt0, n_le0, n_0lt, n_0le, n_eq0, ne_eq, ↓reduceIte, not_true_eq_false, not_false_eq_true, and_true, true_and, and_false, false_and, eq_T, eq_F, lt_T, lt_F, le_T, le_F, qn_T, qn_F, and_F, b01_T, b01_F, e_isIn, Int32.toInt_toInt64, am_i_toInt, am_l_toInt, Int.toNat_natCast, Int.reduceToNat, Int.reduceAdd, Int.reduceSub, Int.reduceMul, Int.reduceNeg, Nat.reduceAdd, Nat.reduceMul, Nat.add_zero, Nat.mul_zero, Nat.zero_add, am_zb0, am_zb1, ↓Bool.cond_decide, cond_true, cond_false, ↓am_let_s, lc_eq, lc_ge, lnz, l_div, am_l_mul, am_l_sub, sg_X12_qFloor_53]
def mJI (I : tI) (L : Nat) : tI := am_up (am_up I 64 101 (am_i (L : Nat))) 64 101 (am_i (L + 1 : Nat))
theorem op62 (a b : Int) : op2 62 a b = if b < a then 1 else 0 := by
  unfold op2
  rw [if_neg (by decide), if_neg (by decide), if_neg (by decide), if_neg (by decide), if_neg (by decide), if_pos rfl]
theorem m_join8 (hm : st_Rm R) {L : Nat} {a b : Int} (hL : L ≤ 1600) (h : I 64 101 = am_i (L + 2 : Nat)) (hb : J 136 (L + 1) = am_l b) (ha : J 136 L = am_l a) (a1 : -1000000 ≤ a) (a2 : a ≤ 1000000) (b1 : -1000000 ≤ b) (b2 : b ≤ 1000000) : am_E (d + 2) 281 0 [(0, .ref 64), (1, .int (am_i 8))] [] (I, J, R, 138) = some (none, (mJI I L, am_up J 136 L (am_l (op2 62 a b)), R, 138)) := by
  have y1 : am_i ((L + 2 : Nat) : Int) - am_i 1 = am_i ((L + 1 : Nat) : Int) := by rw [am_i_sub]; congr 1; omega
  have y2 : am_i ((L + 2 : Nat) : Int) - am_i 2 = am_i (L : Int) := by rw [am_i_sub]; congr 1; omega
  have y3 := fun d v => m_puts (d := d) (J := J) (I := am_up I 64 101 (am_i (L : Int))) (v := v) hm am_up_e hL
  have y4 : ∀ v, (some (none, am_up (am_up I 64 101 (am_i (L : Int))) 64 101 (am_i ((L + 1 : Nat) : Int)), am_up J 136 L v, R, 138) : am_R) = some (none, (mJI I L, am_up J 136 L v, R, 138)) := fun v => rfl
  obtain ⟨x, c0, c1, c2, c3, c4, c5, c6, c7⟩ : ∃ x, am_i 8 = x ∧ (x = am_i 1) = False ∧ (x = am_i 2) = False ∧ (x = am_i 3) = False ∧ (x = am_i 4) = False ∧ (x = am_i 5) = False ∧ (x = am_i 6) = False ∧ (x = am_i 7) = False := ⟨_, rfl, eq_false (by decide), eq_false (by decide), eq_false (by decide), eq_false (by decide), eq_false (by decide), eq_false (by decide), eq_false (by decide)⟩
  rw [sg_X12_qJoins_0, op62, c0]
  by_cases q : b < a
  · simp (disch := first | assumption | omega) only [rM hm, ly_csm, ly_cam, ly_cf, ly_kd, ly_ln, ↓Bool.cond_decide, cond_true, cond_false, ↓bI_p, ↓bV_p, ↓bL_p, bIJ_s, bVJ_s, bLJ_s, ↓am_let_s, Nat.blt, Nat.ble, Bool.and_true, Bool.true_and, Bool.and_self, Int.cast_ofNat_Int, am_i_add, am_i_sub, am_i_mul, am_ok_i, am_i_cl, n_lt, n_le, n_eq, n_lt0, n_le0, n_0lt, n_0le, n_eq0, ne_eq, ↓reduceIte, not_true_eq_false, not_false_eq_true, and_true, true_and, and_false, false_and, eq_T, eq_F, lt_T, lt_F, le_T, le_F, qn_T, qn_F, and_F, b01_T, b01_F, e_isIn, Int32.toInt_toInt64, am_i_toInt, am_l_toInt, Int.toNat_natCast, Int.reduceToNat, Int.reduceAdd, Int.reduceSub, Int.reduceMul, Int.reduceNeg, Nat.reduceAdd, Nat.reduceMul, Nat.add_zero, Nat.mul_zero, Nat.zero_add, am_zb0, am_zb1, ↓bL_p, bLJ_s, c1, c2, c3, c4, c5, c6, c7, h, y1, y2, hb, ha, y3, y4, sg_X12_qJoins_273, lc_le]
  · simp (disch := first | assumption | omega) only [rM hm, ly_csm, ly_cam, ly_cf, ly_kd, ly_ln, ↓Bool.cond_decide, cond_true, cond_false, ↓bI_p, ↓bV_p, ↓bL_p, bIJ_s, bVJ_s, bLJ_s, ↓am_let_s, Nat.blt, Nat.ble, Bool.and_true, Bool.true_and, Bool.and_self, Int.cast_ofNat_Int, am_i_add, am_i_sub, am_i_mul, am_ok_i, am_i_cl, n_lt, n_le, n_eq, n_lt0, n_le0, n_0lt, n_0le, n_eq0, ne_eq, ↓reduceIte, not_true_eq_false, not_false_eq_true, and_true, true_and, and_false, false_and, eq_T, eq_F, lt_T, lt_F, le_T, le_F, qn_T, qn_F, and_F, b01_T, b01_F, e_isIn, Int32.toInt_toInt64, am_i_toInt, am_l_toInt, Int.toNat_natCast, Int.reduceToNat, Int.reduceAdd, Int.reduceSub, Int.reduceMul, Int.reduceNeg, Nat.reduceAdd, Nat.reduceMul, Nat.add_zero, Nat.mul_zero, Nat.zero_add, am_zb0, am_zb1, ↓bL_p, bLJ_s, c1, c2, c3, c4, c5, c6, c7, h, y1, y2, hb, ha, y3, y4, sg_X12_qJoins_273, lc_le]
theorem sgn62 : sgnM 62 = 8 := by rw [sgnM]
theorem m_joins (hm : st_Rm R) {L s : Nat} {a b : Int} (hL : L ≤ 1600) (h : I 64 101 = am_i (L + 2 : Nat)) (hb : J 136 (L + 1) = am_l b) (ha : J 136 L = am_l a) (hs : s ∈ [43, 45, 42, 47, 24, 25, 60, 62, 61, 21, 20]) (a1 : -1000000 ≤ a) (a2 : a ≤ 1000000) (b1 : -1000000 ≤ b) (b2 : b ≤ 1000000) (h01 : s = 21 ∨ s = 20 → (a = 0 ∨ a = 1) ∧ (b = 0 ∨ b = 1)) : am_E (d + 2) 281 0 [(0, .ref 64), (1, .int (am_i (sgnM s)))] [] (I, J, R, 138) = some (none, (mJI I L, am_up J 136 L (am_l (op2 s a b)), R, 138)) := by
  have m1 : -1000000000000 ≤ a * b ∧ a * b ≤ 1000000000000 := by
    have : (a * b).natAbs ≤ 1000000 * 1000000 := by
      rw [Int.natAbs_mul]
      exact Nat.mul_le_mul (by omega) (by omega)
    omega
  have x1 := fun d M => m_clip (d := d) (M := M) (a + b) (by omega) (by omega)
  have x2 := fun d M => m_clip (d := d) (M := M) (a - b) (by omega) (by omega)
  have x3 := fun d M => m_clip (d := d) (M := M) (a * b) (by omega) (by omega)
  have x4 := fun d M => m_floor (d := d) (M := M) a1 a2 b1 b2
  have y1 : am_i ((L + 2 : Nat) : Int) - am_i 1 = am_i ((L + 1 : Nat) : Int) := by rw [am_i_sub]; congr 1; omega
  have y2 : am_i ((L + 2 : Nat) : Int) - am_i 2 = am_i (L : Int) := by rw [am_i_sub]; congr 1; omega
  have y3 := fun d v => m_puts (d := d) (J := J) (I := am_up I 64 101 (am_i (L : Int))) (v := v) hm am_up_e hL
  have y4 : ∀ v, (some (none, am_up (am_up I 64 101 (am_i (L : Int))) 64 101 (am_i ((L + 1 : Nat) : Int)), am_up J 136 L v, R, 138) : am_R) = some (none, (mJI I L, am_up J 136 L v, R, 138)) := fun v => rfl
  rw [sg_X12_qJoins_0]
  simp only [List.mem_cons, List.not_mem_nil, or_false] at hs
  rcases hs with rfl | rfl | rfl | rfl | rfl | rfl | rfl | rfl | rfl | rfl | rfl
  · simp (disch := first | assumption | omega) only [rM hm, ly_csm, ly_cam, ly_cf, ly_kd, ly_ln, ↓Bool.cond_decide, cond_true, cond_false, ↓bI_p, ↓bV_p, ↓bL_p, bIJ_s, bVJ_s, bLJ_s, ↓am_let_s, Nat.blt, Nat.ble, Bool.and_true, Bool.true_and, Bool.and_self, Int.cast_ofNat_Int, am_i_add, am_i_sub, am_i_mul, am_ok_i, am_i_cl, n_lt, n_le, n_eq, n_lt0, n_le0, n_0lt, n_0le, n_eq0, ne_eq, ↓reduceIte, not_true_eq_false, not_false_eq_true, and_true, true_and, and_false, false_and, eq_T, eq_F, lt_T, lt_F, le_T, le_F, qn_T, qn_F, and_F, b01_T, b01_F, e_isIn, Int32.toInt_toInt64, am_i_toInt, am_l_toInt, Int.toNat_natCast, Int.reduceToNat, Int.reduceAdd, Int.reduceSub, Int.reduceMul, Int.reduceNeg, Nat.reduceAdd, Nat.reduceMul, Nat.add_zero, Nat.mul_zero, Nat.zero_add, am_zb0, am_zb1, ↓bL_p, bLJ_s, sgnM, h, y1, y2, hb, ha, am_l_add, x1, y3, y4, sg_X12_qJoins_273, op2]
  · simp (disch := first | assumption | omega) only [rM hm, ly_csm, ly_cam, ly_cf, ly_kd, ly_ln, ↓Bool.cond_decide, cond_true, cond_false, ↓bI_p, ↓bV_p, ↓bL_p, bIJ_s, bVJ_s, bLJ_s, ↓am_let_s, Nat.blt, Nat.ble, Bool.and_true, Bool.true_and, Bool.and_self, Int.cast_ofNat_Int, am_i_add, am_i_sub, am_i_mul, am_ok_i, am_i_cl, n_lt, n_le, n_eq, n_lt0, n_le0, n_0lt, n_0le, n_eq0, ne_eq, ↓reduceIte, not_true_eq_false, not_false_eq_true, and_true, true_and, and_false, false_and, eq_T, eq_F, lt_T, lt_F, le_T, le_F, qn_T, qn_F, and_F, b01_T, b01_F, e_isIn, Int32.toInt_toInt64, am_i_toInt, am_l_toInt, Int.toNat_natCast, Int.reduceToNat, Int.reduceAdd, Int.reduceSub, Int.reduceMul, Int.reduceNeg, Nat.reduceAdd, Nat.reduceMul, Nat.add_zero, Nat.mul_zero, Nat.zero_add, am_zb0, am_zb1, ↓bL_p, bLJ_s, sgnM, h, y1, y2, hb, ha, am_l_sub, x2, y3, y4, sg_X12_qJoins_273, op2]
  · simp (disch := first | assumption | omega) only [rM hm, ly_csm, ly_cam, ly_cf, ly_kd, ly_ln, ↓Bool.cond_decide, cond_true, cond_false, ↓bI_p, ↓bV_p, ↓bL_p, bIJ_s, bVJ_s, bLJ_s, ↓am_let_s, Nat.blt, Nat.ble, Bool.and_true, Bool.true_and, Bool.and_self, Int.cast_ofNat_Int, am_i_add, am_i_sub, am_i_mul, am_ok_i, am_i_cl, n_lt, n_le, n_eq, n_lt0, n_le0, n_0lt, n_0le, n_eq0, ne_eq, ↓reduceIte, not_true_eq_false, not_false_eq_true, and_true, true_and, and_false, false_and, eq_T, eq_F, lt_T, lt_F, le_T, le_F, qn_T, qn_F, and_F, b01_T, b01_F, e_isIn, Int32.toInt_toInt64, am_i_toInt, am_l_toInt, Int.toNat_natCast, Int.reduceToNat, Int.reduceAdd, Int.reduceSub, Int.reduceMul, Int.reduceNeg, Nat.reduceAdd, Nat.reduceMul, Nat.add_zero, Nat.mul_zero, Nat.zero_add, am_zb0, am_zb1, ↓bL_p, bLJ_s, sgnM, h, y1, y2, hb, ha, am_l_mul, x3, y3, y4, sg_X12_qJoins_273, op2]
  · simp (disch := first | assumption | omega) only [rM hm, ly_csm, ly_cam, ly_cf, ly_kd, ly_ln, ↓Bool.cond_decide, cond_true, cond_false, ↓bI_p, ↓bV_p, ↓bL_p, bIJ_s, bVJ_s, bLJ_s, ↓am_let_s, Nat.blt, Nat.ble, Bool.and_true, Bool.true_and, Bool.and_self, Int.cast_ofNat_Int, am_i_add, am_i_sub, am_i_mul, am_ok_i, am_i_cl, n_lt, n_le, n_eq, n_lt0, n_le0, n_0lt, n_0le, n_eq0, ne_eq, ↓reduceIte, not_true_eq_false, not_false_eq_true, and_true, true_and, and_false, false_and, eq_T, eq_F, lt_T, lt_F, le_T, le_F, qn_T, qn_F, and_F, b01_T, b01_F, e_isIn, Int32.toInt_toInt64, am_i_toInt, am_l_toInt, Int.toNat_natCast, Int.reduceToNat, Int.reduceAdd, Int.reduceSub, Int.reduceMul, Int.reduceNeg, Nat.reduceAdd, Nat.reduceMul, Nat.add_zero, Nat.mul_zero, Nat.zero_add, am_zb0, am_zb1, ↓bL_p, bLJ_s, sgnM, h, y1, y2, hb, ha, x4, y3, y4, sg_X12_qJoins_273]
  · by_cases q : b < a
    · simp (disch := first | assumption | omega) only [rM hm, ly_csm, ly_cam, ly_cf, ly_kd, ly_ln, ↓Bool.cond_decide, cond_true, cond_false, ↓bI_p, ↓bV_p, ↓bL_p, bIJ_s, bVJ_s, bLJ_s, ↓am_let_s, Nat.blt, Nat.ble, Bool.and_true, Bool.true_and, Bool.and_self, Int.cast_ofNat_Int, am_i_add, am_i_sub, am_i_mul, am_ok_i, am_i_cl, n_lt, n_le, n_eq, n_lt0, n_le0, n_0lt, n_0le, n_eq0, ne_eq, ↓reduceIte, not_true_eq_false, not_false_eq_true, and_true, true_and, and_false, false_and, eq_T, eq_F, lt_T, lt_F, le_T, le_F, qn_T, qn_F, and_F, b01_T, b01_F, e_isIn, Int32.toInt_toInt64, am_i_toInt, am_l_toInt, Int.toNat_natCast, Int.reduceToNat, Int.reduceAdd, Int.reduceSub, Int.reduceMul, Int.reduceNeg, Nat.reduceAdd, Nat.reduceMul, Nat.add_zero, Nat.mul_zero, Nat.zero_add, am_zb0, am_zb1, ↓bL_p, bLJ_s, sgnM, h, y1, y2, hb, ha, y3, y4, sg_X12_qJoins_273, op2, lc_ge, true_or, or_true, if_true]
    · by_cases q2 : b = a
      · subst q2
        simp (disch := first | assumption | omega) only [rM hm, ly_csm, ly_cam, ly_cf, ly_kd, ly_ln, ↓Bool.cond_decide, cond_true, cond_false, ↓bI_p, ↓bV_p, ↓bL_p, bIJ_s, bVJ_s, bLJ_s, ↓am_let_s, Nat.blt, Nat.ble, Bool.and_true, Bool.true_and, Bool.and_self, Int.cast_ofNat_Int, am_i_add, am_i_sub, am_i_mul, am_ok_i, am_i_cl, n_lt, n_le, n_eq, n_lt0, n_le0, n_0lt, n_0le, n_eq0, ne_eq, ↓reduceIte, not_true_eq_false, not_false_eq_true, and_true, true_and, and_false, false_and, eq_T, eq_F, lt_T, lt_F, le_T, le_F, qn_T, qn_F, and_F, b01_T, b01_F, e_isIn, Int32.toInt_toInt64, am_i_toInt, am_l_toInt, Int.toNat_natCast, Int.reduceToNat, Int.reduceAdd, Int.reduceSub, Int.reduceMul, Int.reduceNeg, Nat.reduceAdd, Nat.reduceMul, Nat.add_zero, Nat.mul_zero, Nat.zero_add, am_zb0, am_zb1, ↓bL_p, bLJ_s, sgnM, h, y1, y2, hb, ha, y3, y4, sg_X12_qJoins_273, op2, lc_ge, true_or, or_true, if_true]
      · simp (disch := first | assumption | omega) only [rM hm, ly_csm, ly_cam, ly_cf, ly_kd, ly_ln, ↓Bool.cond_decide, cond_true, cond_false, ↓bI_p, ↓bV_p, ↓bL_p, bIJ_s, bVJ_s, bLJ_s, ↓am_let_s, Nat.blt, Nat.ble, Bool.and_true, Bool.true_and, Bool.and_self, Int.cast_ofNat_Int, am_i_add, am_i_sub, am_i_mul, am_ok_i, am_i_cl, n_lt, n_le, n_eq, n_lt0, n_le0, n_0lt, n_0le, n_eq0, ne_eq, ↓reduceIte, not_true_eq_false, not_false_eq_true, and_true, true_and, and_false, false_and, eq_T, eq_F, lt_T, lt_F, le_T, le_F, qn_T, qn_F, and_F, b01_T, b01_F, e_isIn, Int32.toInt_toInt64, am_i_toInt, am_l_toInt, Int.toNat_natCast, Int.reduceToNat, Int.reduceAdd, Int.reduceSub, Int.reduceMul, Int.reduceNeg, Nat.reduceAdd, Nat.reduceMul, Nat.add_zero, Nat.mul_zero, Nat.zero_add, am_zb0, am_zb1, ↓bL_p, bLJ_s, sgnM, h, y1, y2, hb, ha, y3, y4, sg_X12_qJoins_273, op2, lc_ge, true_or, or_true, if_true]
  · by_cases q : a < b
    · simp (disch := first | assumption | omega) only [rM hm, ly_csm, ly_cam, ly_cf, ly_kd, ly_ln, ↓Bool.cond_decide, cond_true, cond_false, ↓bI_p, ↓bV_p, ↓bL_p, bIJ_s, bVJ_s, bLJ_s, ↓am_let_s, Nat.blt, Nat.ble, Bool.and_true, Bool.true_and, Bool.and_self, Int.cast_ofNat_Int, am_i_add, am_i_sub, am_i_mul, am_ok_i, am_i_cl, n_lt, n_le, n_eq, n_lt0, n_le0, n_0lt, n_0le, n_eq0, ne_eq, ↓reduceIte, not_true_eq_false, not_false_eq_true, and_true, true_and, and_false, false_and, eq_T, eq_F, lt_T, lt_F, le_T, le_F, qn_T, qn_F, and_F, b01_T, b01_F, e_isIn, Int32.toInt_toInt64, am_i_toInt, am_l_toInt, Int.toNat_natCast, Int.reduceToNat, Int.reduceAdd, Int.reduceSub, Int.reduceMul, Int.reduceNeg, Nat.reduceAdd, Nat.reduceMul, Nat.add_zero, Nat.mul_zero, Nat.zero_add, am_zb0, am_zb1, ↓bL_p, bLJ_s, sgnM, h, y1, y2, hb, ha, y3, y4, sg_X12_qJoins_273, op2, lc_le, or_self, if_false]
    · by_cases q2 : b = a
      · subst q2
        simp (disch := first | assumption | omega) only [rM hm, ly_csm, ly_cam, ly_cf, ly_kd, ly_ln, ↓Bool.cond_decide, cond_true, cond_false, ↓bI_p, ↓bV_p, ↓bL_p, bIJ_s, bVJ_s, bLJ_s, ↓am_let_s, Nat.blt, Nat.ble, Bool.and_true, Bool.true_and, Bool.and_self, Int.cast_ofNat_Int, am_i_add, am_i_sub, am_i_mul, am_ok_i, am_i_cl, n_lt, n_le, n_eq, n_lt0, n_le0, n_0lt, n_0le, n_eq0, ne_eq, ↓reduceIte, not_true_eq_false, not_false_eq_true, and_true, true_and, and_false, false_and, eq_T, eq_F, lt_T, lt_F, le_T, le_F, qn_T, qn_F, and_F, b01_T, b01_F, e_isIn, Int32.toInt_toInt64, am_i_toInt, am_l_toInt, Int.toNat_natCast, Int.reduceToNat, Int.reduceAdd, Int.reduceSub, Int.reduceMul, Int.reduceNeg, Nat.reduceAdd, Nat.reduceMul, Nat.add_zero, Nat.mul_zero, Nat.zero_add, am_zb0, am_zb1, ↓bL_p, bLJ_s, sgnM, h, y1, y2, hb, ha, y3, y4, sg_X12_qJoins_273, op2, lc_le, or_self, if_false]
      · simp (disch := first | assumption | omega) only [rM hm, ly_csm, ly_cam, ly_cf, ly_kd, ly_ln, ↓Bool.cond_decide, cond_true, cond_false, ↓bI_p, ↓bV_p, ↓bL_p, bIJ_s, bVJ_s, bLJ_s, ↓am_let_s, Nat.blt, Nat.ble, Bool.and_true, Bool.true_and, Bool.and_self, Int.cast_ofNat_Int, am_i_add, am_i_sub, am_i_mul, am_ok_i, am_i_cl, n_lt, n_le, n_eq, n_lt0, n_le0, n_0lt, n_0le, n_eq0, ne_eq, ↓reduceIte, not_true_eq_false, not_false_eq_true, and_true, true_and, and_false, false_and, eq_T, eq_F, lt_T, lt_F, le_T, le_F, qn_T, qn_F, and_F, b01_T, b01_F, e_isIn, Int32.toInt_toInt64, am_i_toInt, am_l_toInt, Int.toNat_natCast, Int.reduceToNat, Int.reduceAdd, Int.reduceSub, Int.reduceMul, Int.reduceNeg, Nat.reduceAdd, Nat.reduceMul, Nat.add_zero, Nat.mul_zero, Nat.zero_add, am_zb0, am_zb1, ↓bL_p, bLJ_s, sgnM, h, y1, y2, hb, ha, y3, y4, sg_X12_qJoins_273, op2, lc_le, or_self, if_false]
  · by_cases q : a < b
    · rw [show op2 60 a b = 1 by simp [op2, q]]
      simp (disch := first | assumption | omega) only [rM hm, ly_csm, ly_cam, ly_cf, ly_kd, ly_ln, ↓Bool.cond_decide, cond_true, cond_false, ↓bI_p, ↓bV_p, ↓bL_p, bIJ_s, bVJ_s, bLJ_s, ↓am_let_s, Nat.blt, Nat.ble, Bool.and_true, Bool.true_and, Bool.and_self, Int.cast_ofNat_Int, am_i_add, am_i_sub, am_i_mul, am_ok_i, am_i_cl, n_lt, n_le, n_eq, n_lt0, n_le0, n_0lt, n_0le, n_eq0, ne_eq, ↓reduceIte, not_true_eq_false, not_false_eq_true, and_true, true_and, and_false, false_and, eq_T, eq_F, lt_T, lt_F, le_T, le_F, qn_T, qn_F, and_F, b01_T, b01_F, e_isIn, Int32.toInt_toInt64, am_i_toInt, am_l_toInt, Int.toNat_natCast, Int.reduceToNat, Int.reduceAdd, Int.reduceSub, Int.reduceMul, Int.reduceNeg, Nat.reduceAdd, Nat.reduceMul, Nat.add_zero, Nat.mul_zero, Nat.zero_add, am_zb0, am_zb1, ↓bL_p, bLJ_s, sgnM, h, y1, y2, hb, ha, y3, y4, sg_X12_qJoins_273, lc_ge]
    · rw [show op2 60 a b = 0 by simp [op2, q]]
      simp (disch := first | assumption | omega) only [rM hm, ly_csm, ly_cam, ly_cf, ly_kd, ly_ln, ↓Bool.cond_decide, cond_true, cond_false, ↓bI_p, ↓bV_p, ↓bL_p, bIJ_s, bVJ_s, bLJ_s, ↓am_let_s, Nat.blt, Nat.ble, Bool.and_true, Bool.true_and, Bool.and_self, Int.cast_ofNat_Int, am_i_add, am_i_sub, am_i_mul, am_ok_i, am_i_cl, n_lt, n_le, n_eq, n_lt0, n_le0, n_0lt, n_0le, n_eq0, ne_eq, ↓reduceIte, not_true_eq_false, not_false_eq_true, and_true, true_and, and_false, false_and, eq_T, eq_F, lt_T, lt_F, le_T, le_F, qn_T, qn_F, and_F, b01_T, b01_F, e_isIn, Int32.toInt_toInt64, am_i_toInt, am_l_toInt, Int.toNat_natCast, Int.reduceToNat, Int.reduceAdd, Int.reduceSub, Int.reduceMul, Int.reduceNeg, Nat.reduceAdd, Nat.reduceMul, Nat.add_zero, Nat.mul_zero, Nat.zero_add, am_zb0, am_zb1, ↓bL_p, bLJ_s, sgnM, h, y1, y2, hb, ha, y3, y4, sg_X12_qJoins_273, lc_ge]
  · rw [← sg_X12_qJoins_0, sgn62]
    exact m_join8 hm hL h hb ha a1 a2 b1 b2
  · by_cases q : a = b
    · rw [show op2 61 a b = 1 by simp [op2, q]]
      simp (disch := first | assumption | omega) only [rM hm, ly_csm, ly_cam, ly_cf, ly_kd, ly_ln, ↓Bool.cond_decide, cond_true, cond_false, ↓bI_p, ↓bV_p, ↓bL_p, bIJ_s, bVJ_s, bLJ_s, ↓am_let_s, Nat.blt, Nat.ble, Bool.and_true, Bool.true_and, Bool.and_self, Int.cast_ofNat_Int, am_i_add, am_i_sub, am_i_mul, am_ok_i, am_i_cl, n_lt, n_le, n_eq, n_lt0, n_le0, n_0lt, n_0le, n_eq0, ne_eq, ↓reduceIte, not_true_eq_false, not_false_eq_true, and_true, true_and, and_false, false_and, eq_T, eq_F, lt_T, lt_F, le_T, le_F, qn_T, qn_F, and_F, b01_T, b01_F, e_isIn, Int32.toInt_toInt64, am_i_toInt, am_l_toInt, Int.toNat_natCast, Int.reduceToNat, Int.reduceAdd, Int.reduceSub, Int.reduceMul, Int.reduceNeg, Nat.reduceAdd, Nat.reduceMul, Nat.add_zero, Nat.mul_zero, Nat.zero_add, am_zb0, am_zb1, ↓bL_p, bLJ_s, sgnM, h, y1, y2, hb, ha, y3, y4, sg_X12_qJoins_273, lc_eq]
    · rw [show op2 61 a b = 0 by simp [op2, q]]
      simp (disch := first | assumption | omega) only [rM hm, ly_csm, ly_cam, ly_cf, ly_kd, ly_ln, ↓Bool.cond_decide, cond_true, cond_false, ↓bI_p, ↓bV_p, ↓bL_p, bIJ_s, bVJ_s, bLJ_s, ↓am_let_s, Nat.blt, Nat.ble, Bool.and_true, Bool.true_and, Bool.and_self, Int.cast_ofNat_Int, am_i_add, am_i_sub, am_i_mul, am_ok_i, am_i_cl, n_lt, n_le, n_eq, n_lt0, n_le0, n_0lt, n_0le, n_eq0, ne_eq, ↓reduceIte, not_true_eq_false, not_false_eq_true, and_true, true_and, and_false, false_and, eq_T, eq_F, lt_T, lt_F, le_T, le_F, qn_T, qn_F, and_F, b01_T, b01_F, e_isIn, Int32.toInt_toInt64, am_i_toInt, am_l_toInt, Int.toNat_natCast, Int.reduceToNat, Int.reduceAdd, Int.reduceSub, Int.reduceMul, Int.reduceNeg, Nat.reduceAdd, Nat.reduceMul, Nat.add_zero, Nat.mul_zero, Nat.zero_add, am_zb0, am_zb1, ↓bL_p, bLJ_s, sgnM, h, y1, y2, hb, ha, y3, y4, sg_X12_qJoins_273, lc_eq]
  · obtain ⟨k1, k2⟩ := h01 (Or.inl rfl)
    simp (disch := first | assumption | omega) only [rM hm, ly_csm, ly_cam, ly_cf, ly_kd, ly_ln, ↓Bool.cond_decide, cond_true, cond_false, ↓bI_p, ↓bV_p, ↓bL_p, bIJ_s, bVJ_s, bLJ_s, ↓am_let_s, Nat.blt, Nat.ble, Bool.and_true, Bool.true_and, Bool.and_self, Int.cast_ofNat_Int, am_i_add, am_i_sub, am_i_mul, am_ok_i, am_i_cl, n_lt, n_le, n_eq, n_lt0, n_le0, n_0lt, n_0le, n_eq0, ne_eq, ↓reduceIte, not_true_eq_false, not_false_eq_true, and_true, true_and, and_false, false_and, eq_T, eq_F, lt_T, lt_F, le_T, le_F, qn_T, qn_F, and_F, b01_T, b01_F, e_isIn, Int32.toInt_toInt64, am_i_toInt, am_l_toInt, Int.toNat_natCast, Int.reduceToNat, Int.reduceAdd, Int.reduceSub, Int.reduceMul, Int.reduceNeg, Nat.reduceAdd, Nat.reduceMul, Nat.add_zero, Nat.mul_zero, Nat.zero_add, am_zb0, am_zb1, ↓bL_p, bLJ_s, sgnM, h, y1, y2, hb, ha, am_l_mul, and01 k1 k2, y3, y4, sg_X12_qJoins_273]
  · obtain ⟨k1, k2⟩ := h01 (Or.inr rfl)
    rw [← or01 k1 k2]
    by_cases q : a + b ≤ 0
    · simp (disch := first | assumption | omega) only [rM hm, ly_csm, ly_cam, ly_cf, ly_kd, ly_ln, ↓Bool.cond_decide, cond_true, cond_false, ↓bI_p, ↓bV_p, ↓bL_p, bIJ_s, bVJ_s, bLJ_s, ↓am_let_s, Nat.blt, Nat.ble, Bool.and_true, Bool.true_and, Bool.and_self, Int.cast_ofNat_Int, am_i_add, am_i_sub, am_i_mul, am_ok_i, am_i_cl, n_lt, n_le, n_eq, n_lt0, n_le0, n_0lt, n_0le, n_eq0, ne_eq, ↓reduceIte, not_true_eq_false, not_false_eq_true, and_true, true_and, and_false, false_and, eq_T, eq_F, lt_T, lt_F, le_T, le_F, qn_T, qn_F, and_F, b01_T, b01_F, e_isIn, Int32.toInt_toInt64, am_i_toInt, am_l_toInt, Int.toNat_natCast, Int.reduceToNat, Int.reduceAdd, Int.reduceSub, Int.reduceMul, Int.reduceNeg, Nat.reduceAdd, Nat.reduceMul, Nat.add_zero, Nat.mul_zero, Nat.zero_add, am_zb0, am_zb1, ↓bL_p, bLJ_s, sgnM, h, y1, y2, hb, ha, am_l_add, y3, y4, sg_X12_qJoins_273, lc_le]
    · simp (disch := first | assumption | omega) only [rM hm, ly_csm, ly_cam, ly_cf, ly_kd, ly_ln, ↓Bool.cond_decide, cond_true, cond_false, ↓bI_p, ↓bV_p, ↓bL_p, bIJ_s, bVJ_s, bLJ_s, ↓am_let_s, Nat.blt, Nat.ble, Bool.and_true, Bool.true_and, Bool.and_self, Int.cast_ofNat_Int, am_i_add, am_i_sub, am_i_mul, am_ok_i, am_i_cl, n_lt, n_le, n_eq, n_lt0, n_le0, n_0lt, n_0le, n_eq0, ne_eq, ↓reduceIte, not_true_eq_false, not_false_eq_true, and_true, true_and, and_false, false_and, eq_T, eq_F, lt_T, lt_F, le_T, le_F, qn_T, qn_F, and_F, b01_T, b01_F, e_isIn, Int32.toInt_toInt64, am_i_toInt, am_l_toInt, Int.toNat_natCast, Int.reduceToNat, Int.reduceAdd, Int.reduceSub, Int.reduceMul, Int.reduceNeg, Nat.reduceAdd, Nat.reduceMul, Nat.add_zero, Nat.mul_zero, Nat.zero_add, am_zb0, am_zb1, ↓bL_p, bLJ_s, sgnM, h, y1, y2, hb, ha, am_l_add, y3, y4, sg_X12_qJoins_273, lc_le]
end MTELL
section MLOOP
variable {d : Nat} {J0 : tJ} {R : tR}
theorem m_loop {f bb e : Nat} {en : Nat → Int} {e1 : Nat → Int → Int} {sw b : Bool} {I0 : tI} (hm : st_Rm R) (hf3 : f < 3) (he : e ≤ 1600) (hE : I0 101 (3 + f) = am_i e)
    (hen : ∀ w, wdOK false sw w → -1000000 ≤ en w ∧ en w ≤ 1000000 ∧ ∀ d I J, fr mS1 I0 I → am_E (d + 2) 282 0 [(0, .ref 64), (1, .int (am_i (wnoM w))), (2, .int (am_i bb))] [] (I, J, R, 138) = some (some (.long (am_l (en w))), (I, J, R, 138))) :
    ∀ (p : List tok) (i : Nat) (bs : List Bool) (vs : List Int) (I : tI) (J : tJ), tokOK bs p = some [b] → (∀ t ∈ p, tokW false sw t) → bs.length ≤ 63 → stT bs vs → fr mS1 I0 I → frJ J0 J → stB (J 136) vs → I 64 101 = am_i vs.length → i + p.length = e → (∀ k t, p[k]? = some t → I0 102 (1600 + i + k) = am_i (encM t)) →
      ∃ v, ev en e1 vs p = [v] ∧ vOK b v ∧ mG R v I0 J0 (am_E (d + 3) 206 28 [(0, .ref 64), (1, .int (am_i f)), (2, .int (am_i bb)), (3, .int (am_i i))] [] (I, J, R, 138))
  | [], i, bs, vs, I, J, hOK, hW, h63, hT, hf, hj, hA, hL, hi, hC => by
    have hbs : bs = [b] := by simpa [tokOK] using hOK
    subst hbs
    obtain ⟨v, r, rfl, h1, h2⟩ := stT_1 hT
    have hr : r = [] := by cases r with | nil => rfl | cons _ _ => exact h2.elim
    subst hr
    have hi' : i = e := by simpa using hi
    subst hi'
    have e0 : ((3 : Int) + (f : Int)).toNat = 3 + f := by omega
    have hE' : I 101 (3 + f) = am_i i := by rw [hf 101 _ rfl]; exact hE
    have hv : J 136 0 = am_l v := hA.1
    refine ⟨v, rfl, h1, I, J, ?_, hf, hj⟩
    rw [sg_X12_codesTell_28]
    simp (disch := first | assumption | omega) only [rM hm, ly_csm, ly_cam, ly_cf, ly_kd, ly_ln, ↓Bool.cond_decide, cond_true, cond_false, ↓bI_p, ↓bV_p, ↓bL_p, bIJ_s, bVJ_s, bLJ_s, ↓am_let_s, Nat.blt, Nat.ble, Bool.and_true, Bool.true_and, Bool.and_self, Int.cast_ofNat_Int, am_i_add, am_i_sub, am_i_mul, am_ok_i, am_i_cl, n_lt, n_le, n_eq, n_lt0, n_le0, n_0lt, n_0le, n_eq0, ne_eq, ↓reduceIte, not_true_eq_false, not_false_eq_true, and_true, true_and, and_false, false_and, eq_T, eq_F, lt_T, lt_F, le_T, le_F, qn_T, qn_F, and_F, b01_T, b01_F, e_isIn, Int32.toInt_toInt64, am_i_toInt, am_l_toInt, Int.toNat_natCast, Int.reduceToNat, Int.reduceAdd, Int.reduceSub, Int.reduceMul, Int.reduceNeg, Nat.reduceAdd, Nat.reduceMul, Nat.add_zero, Nat.mul_zero, Nat.zero_add, am_zb0, am_zb1, e0, hE', hv]
  | (k, x) :: p, i, bs, vs, I, J, hOK, hW, h63, hT, hf, hj, hA, hL, hi, hC => by
    have hWt := hW _ List.mem_cons_self
    have hWp : ∀ t ∈ p, tokW false sw t := fun t ht => hW t (List.mem_cons_of_mem _ ht)
    have hCp : ∀ k t, p[k]? = some t → I0 102 (1600 + (i + 1) + k) = am_i (encM t) := fun k t h => by
      have := hC (k + 1) t h
      rw [show 1600 + (i + 1) + k = 1600 + i + (k + 1) by omega]
      exact this
    have hi' : i + 1 + p.length = e := by
      have : i + (p.length + 1) = e := hi
      omega
    have e0 : ((3 : Int) + (f : Int)).toNat = 3 + f := by omega
    have e1600 : ((1600 : Int) + (i : Int)).toNat = 1600 + i := by omega
    have hE' : I 101 (3 + f) = am_i e := by rw [hf 101 _ rfl]; exact hE
    have h0 : I 102 (1600 + i) = am_i (encM (k, x)) := by
      rw [hf 102 _ rfl]
      exact hC 0 _ rfl
    have hlen := stT_len hT
    simp only [tokOK] at hOK
    cases hD : tokD bs (k, x) with
    | none => rw [hD] at hOK; cases hOK
    | some bs' =>
      rw [hD] at hOK
      simp only at hOK
      split at hOK
      · next h63' =>
        rcases tokD_c hD with ⟨rfl, rfl⟩ | ⟨rfl, rfl⟩ | ⟨rfl, r, rfl, rfl⟩ | ⟨rfl, r, rfl, rfl, hs⟩ | ⟨rfl, r, rfl, rfl, hs⟩ | ⟨rfl, rfl⟩ | ⟨rfl, r, rfl, rfl⟩
        · have hx9 : x ≤ 9999 := hWt
          have h0' : I 102 (1600 + i) = am_i (1000 + (x : Int)) := h0
          have c1 : (am_i (1000 + (x : Int) - 1000)).toInt64 = am_l x := by
            rw [i_tol (by omega) (by omega)]
            congr 1
            omega
          rw [List.length_cons] at h63'
          obtain ⟨v, g1, g2, g3⟩ := m_loop hm hf3 he hE hen p (i + 1) _ ((x : Int) :: vs) (am_up I 64 101 (am_i (vs.length + 1 : Nat))) (am_up J 136 vs.length (am_l x)) hOK hWp h63' ⟨⟨by omega, by omega, fun h => by cases h⟩, hT⟩ (mS1_u hf) (frJ_u hj) (stB_u hA) am_up_e hi' hCp
          refine ⟨v, g1, g2, ?_⟩
          have e2 := fun d v => m_puts (d := d) (J := J) (v := v) hm hL (by omega)
          rw [sg_X12_codesTell_28]
          simp (disch := first | assumption | omega) only [rM hm, ly_csm, ly_cam, ly_cf, ly_kd, ly_ln, ↓Bool.cond_decide, cond_true, cond_false, ↓bI_p, ↓bV_p, ↓bL_p, bIJ_s, bVJ_s, bLJ_s, ↓am_let_s, Nat.blt, Nat.ble, Bool.and_true, Bool.true_and, Bool.and_self, Int.cast_ofNat_Int, am_i_add, am_i_sub, am_i_mul, am_ok_i, am_i_cl, n_lt, n_le, n_eq, n_lt0, n_le0, n_0lt, n_0le, n_eq0, ne_eq, ↓reduceIte, not_true_eq_false, not_false_eq_true, and_true, true_and, and_false, false_and, eq_T, eq_F, lt_T, lt_F, le_T, le_F, qn_T, qn_F, and_F, b01_T, b01_F, e_isIn, Int32.toInt_toInt64, am_i_toInt, am_l_toInt, Int.toNat_natCast, Int.reduceToNat, Int.reduceAdd, Int.reduceSub, Int.reduceMul, Int.reduceNeg, Nat.reduceAdd, Nat.reduceMul, Nat.add_zero, Nat.mul_zero, Nat.zero_add, am_zb0, am_zb1, e0, e1600, hE', h0', c1, e2, sg_X12_codesTell_153, am_i_s]
          exact g3
        · obtain ⟨q1, q2, q3⟩ := hen x hWt
          have q3' := fun d => q3 d I J hf
          have hb := wno_b x
          have h0' : I 102 (1600 + i) = am_i (40 + wnoM x) := h0
          have c1 : am_i (40 + wnoM x) - am_i 40 = am_i (wnoM x) := by
            rw [am_i_sub]
            congr 1
            omega
          rw [List.length_cons] at h63'
          obtain ⟨v, g1, g2, g3⟩ := m_loop hm hf3 he hE hen p (i + 1) _ (en x :: vs) (am_up I 64 101 (am_i (vs.length + 1 : Nat))) (am_up J 136 vs.length (am_l (en x))) hOK hWp h63' ⟨⟨q1, q2, fun h => by cases h⟩, hT⟩ (mS1_u hf) (frJ_u hj) (stB_u hA) am_up_e hi' hCp
          refine ⟨v, g1, g2, ?_⟩
          have e2 := fun d v => m_puts (d := d) (J := J) (v := v) hm hL (by omega)
          rw [sg_X12_codesTell_28]
          simp (disch := first | assumption | omega) only [rM hm, ly_csm, ly_cam, ly_cf, ly_kd, ly_ln, ↓Bool.cond_decide, cond_true, cond_false, ↓bI_p, ↓bV_p, ↓bL_p, bIJ_s, bVJ_s, bLJ_s, ↓am_let_s, Nat.blt, Nat.ble, Bool.and_true, Bool.true_and, Bool.and_self, Int.cast_ofNat_Int, ↓c1, am_i_add, am_i_sub, am_i_mul, am_ok_i, am_i_cl, n_lt, n_le, n_eq, n_lt0, n_le0, n_0lt, n_0le, n_eq0, ne_eq, ↓reduceIte, not_true_eq_false, not_false_eq_true, and_true, true_and, and_false, false_and, eq_T, eq_F, lt_T, lt_F, le_T, le_F, qn_T, qn_F, and_F, b01_T, b01_F, e_isIn, Int32.toInt_toInt64, am_i_toInt, am_l_toInt, Int.toNat_natCast, Int.reduceToNat, Int.reduceAdd, Int.reduceSub, Int.reduceMul, Int.reduceNeg, Nat.reduceAdd, Nat.reduceMul, Nat.add_zero, Nat.mul_zero, Nat.zero_add, am_zb0, am_zb1, ↓bL_p, bLJ_s, e0, e1600, hE', h0', c1, q3', e2, sg_X12_codesTell_153, am_i_s]
          exact g3
        · obtain ⟨w, r', rfl, h1, h2⟩ := stT_1 hT
          have hl2 := stT_len h2
          have hw01 := h1.2.2 rfl
          have h0' : I 102 (1600 + i) = am_i 12 := h0
          have y1 : I 64 101 - am_i 1 = am_i (r'.length : Int) := by
            rw [hL, am_i_sub]
            congr 1
            simp
          rw [List.length_cons] at h63'
          have hB : stB (am_up J 136 r'.length (am_l (1 - w)) 136) ((1 - w) :: r') := stB_u hA.2
          obtain ⟨v, g1, g2, g3⟩ := m_loop hm hf3 he hE hen p (i + 1) _ ((1 - w) :: r') I (am_up J 136 r'.length (am_l (1 - w))) hOK hWp h63' ⟨⟨by omega, by omega, fun _ => by omega⟩, h2⟩ hf (frJ_u hj) hB hL hi' hCp
          refine ⟨v, g1, g2, ?_⟩
          have y2 : J 136 r'.length = am_l w := hA.1
          rw [sg_X12_codesTell_28]
          simp (disch := first | assumption | omega) only [rM hm, ly_csm, ly_cam, ly_cf, ly_kd, ly_ln, ↓Bool.cond_decide, cond_true, cond_false, ↓bI_p, ↓bV_p, ↓bL_p, bIJ_s, bVJ_s, bLJ_s, ↓am_let_s, Nat.blt, Nat.ble, Bool.and_true, Bool.true_and, Bool.and_self, Int.cast_ofNat_Int, am_i_add, am_i_sub, am_i_mul, am_ok_i, am_i_cl, n_lt, n_le, n_eq, n_lt0, n_le0, n_0lt, n_0le, n_eq0, ne_eq, ↓reduceIte, not_true_eq_false, not_false_eq_true, and_true, true_and, and_false, false_and, eq_T, eq_F, lt_T, lt_F, le_T, le_F, qn_T, qn_F, and_F, b01_T, b01_F, e_isIn, Int32.toInt_toInt64, am_i_toInt, am_l_toInt, Int.toNat_natCast, Int.reduceToNat, Int.reduceAdd, Int.reduceSub, Int.reduceMul, Int.reduceNeg, Nat.reduceAdd, Nat.reduceMul, Nat.add_zero, Nat.mul_zero, Nat.zero_add, am_zb0, am_zb1, e0, e1600, hE', h0', y1, y2, am_l_sub, sg_X12_codesTell_153, am_i_s]
          exact g3
        · obtain ⟨w, u, r', rfl, h1, h1', h2⟩ := stT_2 hT
          have hl2 := stT_len h2
          have h0' : I 102 (1600 + i) = am_i (sgnM x) := h0
          have hsg : 10 ≤ sgnM x ∧ sgnM x ≤ 11 := by rcases hs with rfl | rfl <;> decide
          rw [List.length_cons] at h63'
          obtain ⟨v, g1, g2, g3⟩ := m_loop hm hf3 he hE hen p (i + 1) _ (op2 x u w :: r') (mJI I r'.length) (am_up J 136 r'.length (am_l (op2 x u w))) hOK hWp h63' ⟨op2_t hs h1' h1, h2⟩ (mS1_u (mS1_u hf)) (frJ_u hj) (stB_u hA.2.2) am_up_e hi' hCp
          refine ⟨v, g1, g2, ?_⟩
          have e3 := fun d => m_joins (d := d) (I := I) (J := J) (L := r'.length) (s := x) hm (by omega) hL hA.1 hA.2.1 hWt h1'.1 h1'.2.1 h1.1 h1.2.1 (fun _ => ⟨h1'.2.2 rfl, h1.2.2 rfl⟩)
          rw [sg_X12_codesTell_28]
          simp (disch := first | assumption | omega) only [rM hm, ly_csm, ly_cam, ly_cf, ly_kd, ly_ln, ↓Bool.cond_decide, cond_true, cond_false, ↓bI_p, ↓bV_p, ↓bL_p, bIJ_s, bVJ_s, bLJ_s, ↓am_let_s, Nat.blt, Nat.ble, Bool.and_true, Bool.true_and, Bool.and_self, Int.cast_ofNat_Int, am_i_add, am_i_sub, am_i_mul, am_ok_i, am_i_cl, n_lt, n_le, n_eq, n_lt0, n_le0, n_0lt, n_0le, n_eq0, ne_eq, ↓reduceIte, not_true_eq_false, not_false_eq_true, and_true, true_and, and_false, false_and, eq_T, eq_F, lt_T, lt_F, le_T, le_F, qn_T, qn_F, and_F, b01_T, b01_F, e_isIn, Int32.toInt_toInt64, am_i_toInt, am_l_toInt, Int.toNat_natCast, Int.reduceToNat, Int.reduceAdd, Int.reduceSub, Int.reduceMul, Int.reduceNeg, Nat.reduceAdd, Nat.reduceMul, Nat.add_zero, Nat.mul_zero, Nat.zero_add, am_zb0, am_zb1, e0, e1600, hE', h0', e3, sg_X12_codesTell_153, am_i_s]
          exact g3
        · obtain ⟨w, u, r', rfl, h1, h1', h2⟩ := stT_2 hT
          have hl2 := stT_len h2
          have h0' : I 102 (1600 + i) = am_i (sgnM x) := h0
          have hsg : 1 ≤ sgnM x ∧ sgnM x ≤ 11 := by unfold sgnM; split <;> omega
          rw [List.length_cons] at h63'
          obtain ⟨v, g1, g2, g3⟩ := m_loop hm hf3 he hE hen p (i + 1) _ (op2 x u w :: r') (mJI I r'.length) (am_up J 136 r'.length (am_l (op2 x u w))) hOK hWp h63' ⟨op2_n hWt h1' h1, h2⟩ (mS1_u (mS1_u hf)) (frJ_u hj) (stB_u hA.2.2) am_up_e hi' hCp
          refine ⟨v, g1, g2, ?_⟩
          have e3 := fun d => m_joins (d := d) (I := I) (J := J) (L := r'.length) (s := x) hm (by omega) hL hA.1 hA.2.1 hWt h1'.1 h1'.2.1 h1.1 h1.2.1 (fun h => absurd h hs)
          rw [sg_X12_codesTell_28]
          simp (disch := first | assumption | omega) only [rM hm, ly_csm, ly_cam, ly_cf, ly_kd, ly_ln, ↓Bool.cond_decide, cond_true, cond_false, ↓bI_p, ↓bV_p, ↓bL_p, bIJ_s, bVJ_s, bLJ_s, ↓am_let_s, Nat.blt, Nat.ble, Bool.and_true, Bool.true_and, Bool.and_self, Int.cast_ofNat_Int, am_i_add, am_i_sub, am_i_mul, am_ok_i, am_i_cl, n_lt, n_le, n_eq, n_lt0, n_le0, n_0lt, n_0le, n_eq0, ne_eq, ↓reduceIte, not_true_eq_false, not_false_eq_true, and_true, true_and, and_false, false_and, eq_T, eq_F, lt_T, lt_F, le_T, le_F, qn_T, qn_F, and_F, b01_T, b01_F, e_isIn, Int32.toInt_toInt64, am_i_toInt, am_l_toInt, Int.toNat_natCast, Int.reduceToNat, Int.reduceAdd, Int.reduceSub, Int.reduceMul, Int.reduceNeg, Nat.reduceAdd, Nat.reduceMul, Nat.add_zero, Nat.mul_zero, Nat.zero_add, am_zb0, am_zb1, e0, e1600, hE', h0', e3, sg_X12_codesTell_153, am_i_s]
          exact g3
        · have h0' : I 102 (1600 + i) = am_i 13 := h0
          rw [List.length_cons] at h63'
          obtain ⟨v, g1, g2, g3⟩ := m_loop hm hf3 he hE hen p (i + 1) _ ((1 : Int) :: vs) (am_up I 64 101 (am_i (vs.length + 1 : Nat))) (am_up J 136 vs.length (am_l 1)) hOK hWp h63' ⟨⟨by omega, by omega, fun h => Or.inr rfl⟩, hT⟩ (mS1_u hf) (frJ_u hj) (stB_u hA) am_up_e hi' hCp
          refine ⟨v, g1, g2, ?_⟩
          have e2 := fun d v => m_puts (d := d) (J := J) (v := v) hm hL (by omega)
          rw [sg_X12_codesTell_28]
          simp (disch := first | assumption | omega) only [rM hm, ly_csm, ly_cam, ly_cf, ly_kd, ly_ln, ↓Bool.cond_decide, cond_true, cond_false, ↓bI_p, ↓bV_p, ↓bL_p, bIJ_s, bVJ_s, bLJ_s, ↓am_let_s, Nat.blt, Nat.ble, Bool.and_true, Bool.true_and, Bool.and_self, Int.cast_ofNat_Int, am_i_add, am_i_sub, am_i_mul, am_ok_i, am_i_cl, n_lt, n_le, n_eq, n_lt0, n_le0, n_0lt, n_0le, n_eq0, ne_eq, ↓reduceIte, not_true_eq_false, not_false_eq_true, and_true, true_and, and_false, false_and, eq_T, eq_F, lt_T, lt_F, le_T, le_F, qn_T, qn_F, and_F, b01_T, b01_F, e_isIn, Int32.toInt_toInt64, am_i_toInt, am_l_toInt, Int.toNat_natCast, Int.reduceToNat, Int.reduceAdd, Int.reduceSub, Int.reduceMul, Int.reduceNeg, Nat.reduceAdd, Nat.reduceMul, Nat.add_zero, Nat.mul_zero, Nat.zero_add, am_zb0, am_zb1, e0, e1600, hE', h0', e2, sg_X12_codesTell_153, am_i_s]
          exact g3
        · exact absurd hWt.1 (by decide)
      · cases hOK
end MLOOP
