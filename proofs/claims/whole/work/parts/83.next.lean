/-! ===== the class's next token ===== -/
section NEXT
variable {d : Nat} {J : tJ} {R : tR} {T : Nat → Nat} {n : Nat}
/-- what a scan changes -/
def scC (q k : Nat) : Prop := q = 5 ∧ k ≠ 10 ∧ k ≠ 11
theorem x_n42 (hx : st_Rx R) {I0 : tI} {w : Int32} (hT : txX T n I0 R) {p : Nat} : ∀ (m i : Nat) (I : tI), tAt T n p = i + m → p ≤ i → i ≤ n → (∀ q j, q ≠ 5 → I q j = I0 q j) → I 5 2 = am_i n → I 5 4 = am_i i → ∃ I', am_E (d + 1) 73 42 [(0, .ref 5), (1, .int w), (2, .int (am_i p)), (3, .int (am_i i))] [] (I, J, R, 138) = am_E (d + 1) 73 85 [(0, .ref 5), (1, .int w), (2, .int (am_i p))] [] (I', J, R, 138) ∧ (∀ q j, ¬ (q = 5 ∧ j = 4) → I' q j = I q j) ∧ I' 5 4 = am_i (tAt T n p)
  | 0, i, I, hi, hpi, hin, hI, e2, e4 => by
    obtain ⟨t1, t2, t3, t4⟩ := hT
    refine ⟨I, ?_, fun _ _ _ => rfl, by rw [e4, hi, Nat.add_zero]⟩
    have nd := sp_nd (c := sB) (T := T) (n := n) p
    have hi' : spn sB T n p = i := hi
    rw [hi'] at nd
    rw [sg_X9_next_42]
    by_cases q : i < n
    · have nl : ¬ sB (T i) = true := fun e => nd ⟨q, e⟩
      rw [sB_t] at nl
      obtain ⟨u1, u2⟩ := t3 i q
      have i4 : I 4 i = am_i (T i) := by rw [hI _ _ (by omega)]; exact u2
      simp (disch := first | assumption | omega) only [rX hx, ly_csx, ly_cax, ly_cf, ly_kd, ly_ln, ↓Bool.cond_decide, cond_true, cond_false, ↓bI_p, ↓bV_p, ↓bL_p, bIJ_s, bVJ_s, bLJ_s, ↓am_let_s, Nat.blt, Nat.ble, Bool.and_true, Bool.true_and, Bool.and_self, Int.cast_ofNat_Int, am_i_add, am_i_sub, am_i_mul, am_ok_i, am_i_cl, n_lt, n_le, n_eq, n_lt0, n_le0, n_0lt, n_0le, n_eq0, ne_eq, ↓reduceIte, not_true_eq_false, not_false_eq_true, and_true, true_and, and_false, false_and, eq_T, eq_F, lt_T, lt_F, le_T, le_F, qn_T, qn_F, and_F, b01_T, b01_F, e_isIn, Int32.toInt_toInt64, am_i_toInt, am_l_toInt, Int.toNat_natCast, Int.reduceToNat, Int.reduceAdd, Int.reduceSub, Int.reduceMul, Int.reduceNeg, Nat.reduceAdd, Nat.reduceMul, Nat.add_zero, Nat.mul_zero, Nat.zero_add, am_zb0, am_zb1, t2, e2, i4]
    · simp (disch := first | assumption | omega) only [rX hx, ly_csx, ly_cax, ly_cf, ly_kd, ly_ln, ↓Bool.cond_decide, cond_true, cond_false, ↓bI_p, ↓bV_p, ↓bL_p, bIJ_s, bVJ_s, bLJ_s, ↓am_let_s, Nat.blt, Nat.ble, Bool.and_true, Bool.true_and, Bool.and_self, Int.cast_ofNat_Int, am_i_add, am_i_sub, am_i_mul, am_ok_i, am_i_cl, n_lt, n_le, n_eq, n_lt0, n_le0, n_0lt, n_0le, n_eq0, ne_eq, ↓reduceIte, not_true_eq_false, not_false_eq_true, and_true, true_and, and_false, false_and, eq_T, eq_F, lt_T, lt_F, le_T, le_F, qn_T, qn_F, and_F, b01_T, b01_F, e_isIn, Int32.toInt_toInt64, am_i_toInt, am_l_toInt, Int.toNat_natCast, Int.reduceToNat, Int.reduceAdd, Int.reduceSub, Int.reduceMul, Int.reduceNeg, Nat.reduceAdd, Nat.reduceMul, Nat.add_zero, Nat.mul_zero, Nat.zero_add, am_zb0, am_zb1, t2, e2]
  | m + 1, i, I, hi, hpi, hin, hI, e2, e4 => by
    obtain ⟨t1, t2, t3, t4⟩ := hT
    have hi' : spn sB T n p = i + (m + 1) := hi
    obtain ⟨k1, k2⟩ := sp_in (c := sB) (T := T) (n := n) (p := p) (q := i) hpi (by omega)
    rw [sB_t] at k2
    obtain ⟨u1, u2⟩ := t3 i k1
    have i4 : I 4 i = am_i (T i) := by rw [hI _ _ (by omega)]; exact u2
    obtain ⟨I', p1, p2, p3⟩ := x_n42 hx (w := w) (I0 := I0) ⟨t1, t2, t3, t4⟩ (p := p) m (i + 1) (am_up I 5 4 (am_i (i + 1 : Nat))) (by omega) (by omega) (by omega) (fun q j h => by rw [am_up_o (by omega)]; exact hI q j h) (by rw [am_up_o (by omega)]; exact e2) am_up_e
    refine ⟨I', ?_, fun q j h => by rw [p2 q j h, am_up_o h], p3⟩
    rw [← p1, sg_X9_next_42]
    rcases k2 with k2 | k2
    · rw [k2] at i4
      have i4' : I 4 i = am_i 10 := i4
      simp (disch := first | assumption | omega) only [rX hx, ly_csx, ly_cax, ly_cf, ly_kd, ly_ln, ↓Bool.cond_decide, cond_true, cond_false, ↓bI_p, ↓bV_p, ↓bL_p, bIJ_s, bVJ_s, bLJ_s, ↓am_let_s, Nat.blt, Nat.ble, Bool.and_true, Bool.true_and, Bool.and_self, Int.cast_ofNat_Int, am_i_add, am_i_sub, am_i_mul, am_ok_i, am_i_cl, n_lt, n_le, n_eq, n_lt0, n_le0, n_0lt, n_0le, n_eq0, ne_eq, ↓reduceIte, not_true_eq_false, not_false_eq_true, and_true, true_and, and_false, false_and, eq_T, eq_F, lt_T, lt_F, le_T, le_F, qn_T, qn_F, and_F, b01_T, b01_F, e_isIn, Int32.toInt_toInt64, am_i_toInt, am_l_toInt, Int.toNat_natCast, Int.reduceToNat, Int.reduceAdd, Int.reduceSub, Int.reduceMul, Int.reduceNeg, Nat.reduceAdd, Nat.reduceMul, Nat.add_zero, Nat.mul_zero, Nat.zero_add, am_zb0, am_zb1, t2, e2, i4', sg_X9_next_72, am_i_s]
    · rw [k2] at i4
      have i4' : I 4 i = am_i 32 := i4
      simp (disch := first | assumption | omega) only [rX hx, ly_csx, ly_cax, ly_cf, ly_kd, ly_ln, ↓Bool.cond_decide, cond_true, cond_false, ↓bI_p, ↓bV_p, ↓bL_p, bIJ_s, bVJ_s, bLJ_s, ↓am_let_s, Nat.blt, Nat.ble, Bool.and_true, Bool.true_and, Bool.and_self, Int.cast_ofNat_Int, am_i_add, am_i_sub, am_i_mul, am_ok_i, am_i_cl, n_lt, n_le, n_eq, n_lt0, n_le0, n_0lt, n_0le, n_eq0, ne_eq, ↓reduceIte, not_true_eq_false, not_false_eq_true, and_true, true_and, and_false, false_and, eq_T, eq_F, lt_T, lt_F, le_T, le_F, qn_T, qn_F, and_F, b01_T, b01_F, e_isIn, Int32.toInt_toInt64, am_i_toInt, am_l_toInt, Int.toNat_natCast, Int.reduceToNat, Int.reduceAdd, Int.reduceSub, Int.reduceMul, Int.reduceNeg, Nat.reduceAdd, Nat.reduceMul, Nat.add_zero, Nat.mul_zero, Nat.zero_add, am_zb0, am_zb1, t2, e2, i4', sg_X9_next_72, am_i_s]
/-- behind the token: is it glued -/
theorem x_n185 (hx : st_Rx R) {I : tI} {p a k : Nat} {w : Int} (hn : n ≤ 1600) (ha : a ≤ n) (hp : p ≤ n) (e4 : I 5 4 = am_i a) (e5 : I 5 5 = am_i k) (hk : k ≤ 3) (hw : w = 0 ∨ w = 1) (hg : (k = 1 ∨ k = 2) → a = p → (w = 1 ↔ tGl T p a = true)) : am_E (d + 1) 73 185 [(0, .ref 5), (1, .int (am_i w)), (2, .int (am_i p))] [] (I, J, R, 138) = some (none, ((if (k = 1 ∨ k = 2) ∧ tGl T p a = true then am_up I 5 5 (am_i 4) else I), J, R, 138)) := by
  have f201 : (k = 1 ∨ k = 2) → am_E (d + 1) 73 201 [(0, .ref 5), (1, .int (am_i w)), (2, .int (am_i p))] [] (I, J, R, 138) = some (none, ((if (k = 1 ∨ k = 2) ∧ tGl T p a = true then am_up I 5 5 (am_i 4) else I), J, R, 138)) := by
    intro hk2
    rw [sg_X9_next_201]
    by_cases q : a = p
    · by_cases q2 : tGl T p a = true
      · have w1 := (hg hk2 q).mpr q2
        rw [if_pos ⟨hk2, q2⟩]
        simp (disch := first | assumption | omega) only [rX hx, ly_csx, ly_cax, ly_cf, ly_kd, ly_ln, ↓Bool.cond_decide, cond_true, cond_false, ↓bI_p, ↓bV_p, ↓bL_p, bIJ_s, bVJ_s, bLJ_s, ↓am_let_s, Nat.blt, Nat.ble, Bool.and_true, Bool.true_and, Bool.and_self, Int.cast_ofNat_Int, am_i_add, am_i_sub, am_i_mul, am_ok_i, am_i_cl, n_lt, n_le, n_eq, n_lt0, n_le0, n_0lt, n_0le, n_eq0, ne_eq, ↓reduceIte, not_true_eq_false, not_false_eq_true, and_true, true_and, and_false, false_and, eq_T, eq_F, lt_T, lt_F, le_T, le_F, qn_T, qn_F, and_F, b01_T, b01_F, e_isIn, Int32.toInt_toInt64, am_i_toInt, am_l_toInt, Int.toNat_natCast, Int.reduceToNat, Int.reduceAdd, Int.reduceSub, Int.reduceMul, Int.reduceNeg, Nat.reduceAdd, Nat.reduceMul, Nat.add_zero, Nat.mul_zero, Nat.zero_add, am_zb0, am_zb1, e4, sg_X9_next_218]
      · have w0 : ¬ w = 1 := fun e => q2 ((hg hk2 q).mp e)
        have w00 : w = 0 := by omega
        rw [if_neg (fun e => q2 e.2)]
        simp (disch := first | assumption | omega) only [rX hx, ly_csx, ly_cax, ly_cf, ly_kd, ly_ln, ↓Bool.cond_decide, cond_true, cond_false, ↓bI_p, ↓bV_p, ↓bL_p, bIJ_s, bVJ_s, bLJ_s, ↓am_let_s, Nat.blt, Nat.ble, Bool.and_true, Bool.true_and, Bool.and_self, Int.cast_ofNat_Int, am_i_add, am_i_sub, am_i_mul, am_ok_i, am_i_cl, n_lt, n_le, n_eq, n_lt0, n_le0, n_0lt, n_0le, n_eq0, ne_eq, ↓reduceIte, not_true_eq_false, not_false_eq_true, and_true, true_and, and_false, false_and, eq_T, eq_F, lt_T, lt_F, le_T, le_F, qn_T, qn_F, and_F, b01_T, b01_F, e_isIn, Int32.toInt_toInt64, am_i_toInt, am_l_toInt, Int.toNat_natCast, Int.reduceToNat, Int.reduceAdd, Int.reduceSub, Int.reduceMul, Int.reduceNeg, Nat.reduceAdd, Nat.reduceMul, Nat.add_zero, Nat.mul_zero, Nat.zero_add, am_zb0, am_zb1, e4, sg_X9_next_218]
    · have q2 : ¬ tGl T p a = true := by unfold tGl; rw [decide_eq_false (by omega)]; simp
      rw [if_neg (fun e => q2 e.2)]
      simp (disch := first | assumption | omega) only [rX hx, ly_csx, ly_cax, ly_cf, ly_kd, ly_ln, ↓Bool.cond_decide, cond_true, cond_false, ↓bI_p, ↓bV_p, ↓bL_p, bIJ_s, bVJ_s, bLJ_s, ↓am_let_s, Nat.blt, Nat.ble, Bool.and_true, Bool.true_and, Bool.and_self, Int.cast_ofNat_Int, am_i_add, am_i_sub, am_i_mul, am_ok_i, am_i_cl, n_lt, n_le, n_eq, n_lt0, n_le0, n_0lt, n_0le, n_eq0, ne_eq, ↓reduceIte, not_true_eq_false, not_false_eq_true, and_true, true_and, and_false, false_and, eq_T, eq_F, lt_T, lt_F, le_T, le_F, qn_T, qn_F, and_F, b01_T, b01_F, e_isIn, Int32.toInt_toInt64, am_i_toInt, am_l_toInt, Int.toNat_natCast, Int.reduceToNat, Int.reduceAdd, Int.reduceSub, Int.reduceMul, Int.reduceNeg, Nat.reduceAdd, Nat.reduceMul, Nat.add_zero, Nat.mul_zero, Nat.zero_add, am_zb0, am_zb1, e4, sg_X9_next_218]
  rw [sg_X9_next_185]
  by_cases q1 : k = 1
  · have f := f201 (Or.inl q1)
    simp (disch := first | assumption | omega) only [rX hx, ly_csx, ly_cax, ly_cf, ly_kd, ly_ln, ↓Bool.cond_decide, cond_true, cond_false, ↓bI_p, ↓bV_p, ↓bL_p, bIJ_s, bVJ_s, bLJ_s, ↓am_let_s, Nat.blt, Nat.ble, Bool.and_true, Bool.true_and, Bool.and_self, Int.cast_ofNat_Int, am_i_add, am_i_sub, am_i_mul, am_ok_i, am_i_cl, n_lt, n_le, n_eq, n_lt0, n_le0, n_0lt, n_0le, n_eq0, ne_eq, ↓reduceIte, not_true_eq_false, not_false_eq_true, and_true, true_and, and_false, false_and, eq_T, eq_F, lt_T, lt_F, le_T, le_F, qn_T, qn_F, and_F, b01_T, b01_F, e_isIn, Int32.toInt_toInt64, am_i_toInt, am_l_toInt, Int.toNat_natCast, Int.reduceToNat, Int.reduceAdd, Int.reduceSub, Int.reduceMul, Int.reduceNeg, Nat.reduceAdd, Nat.reduceMul, Nat.add_zero, Nat.mul_zero, Nat.zero_add, am_zb0, am_zb1, e5, f]
  · by_cases q2 : k = 2
    · have f := f201 (Or.inr q2)
      simp (disch := first | assumption | omega) only [rX hx, ly_csx, ly_cax, ly_cf, ly_kd, ly_ln, ↓Bool.cond_decide, cond_true, cond_false, ↓bI_p, ↓bV_p, ↓bL_p, bIJ_s, bVJ_s, bLJ_s, ↓am_let_s, Nat.blt, Nat.ble, Bool.and_true, Bool.true_and, Bool.and_self, Int.cast_ofNat_Int, am_i_add, am_i_sub, am_i_mul, am_ok_i, am_i_cl, n_lt, n_le, n_eq, n_lt0, n_le0, n_0lt, n_0le, n_eq0, ne_eq, ↓reduceIte, not_true_eq_false, not_false_eq_true, and_true, true_and, and_false, false_and, eq_T, eq_F, lt_T, lt_F, le_T, le_F, qn_T, qn_F, and_F, b01_T, b01_F, e_isIn, Int32.toInt_toInt64, am_i_toInt, am_l_toInt, Int.toNat_natCast, Int.reduceToNat, Int.reduceAdd, Int.reduceSub, Int.reduceMul, Int.reduceNeg, Nat.reduceAdd, Nat.reduceMul, Nat.add_zero, Nat.mul_zero, Nat.zero_add, am_zb0, am_zb1, e5, f]
    · rw [if_neg (by omega)]
      simp (disch := first | assumption | omega) only [rX hx, ly_csx, ly_cax, ly_cf, ly_kd, ly_ln, ↓Bool.cond_decide, cond_true, cond_false, ↓bI_p, ↓bV_p, ↓bL_p, bIJ_s, bVJ_s, bLJ_s, ↓am_let_s, Nat.blt, Nat.ble, Bool.and_true, Bool.true_and, Bool.and_self, Int.cast_ofNat_Int, am_i_add, am_i_sub, am_i_mul, am_ok_i, am_i_cl, n_lt, n_le, n_eq, n_lt0, n_le0, n_0lt, n_0le, n_eq0, ne_eq, ↓reduceIte, not_true_eq_false, not_false_eq_true, and_true, true_and, and_false, false_and, eq_T, eq_F, lt_T, lt_F, le_T, le_F, qn_T, qn_F, and_F, b01_T, b01_F, e_isIn, Int32.toInt_toInt64, am_i_toInt, am_l_toInt, Int.toNat_natCast, Int.reduceToNat, Int.reduceAdd, Int.reduceSub, Int.reduceMul, Int.reduceNeg, Nat.reduceAdd, Nat.reduceMul, Nat.add_zero, Nat.mul_zero, Nat.zero_add, am_zb0, am_zb1, e5, sg_X9_next_218]
theorem x_nxt (hx : st_Rx R) {I : tI} (hT : txX T n I R) {p kk : Nat} (hp : p ≤ n) (e2 : I 5 2 = am_i n) (e3 : I 5 3 = am_i p) (e10 : I 5 10 = am_i 0) (e5 : I 5 5 = am_i kk) (hkk : kk ≤ 4) (hg : p < n → tAt T n p = p → (lB (T p) = true ∨ dB (T p) = true) → ((kk = 1 ∨ kk = 2) ↔ tGl T p p = true)) : ∃ I', am_E (d + 4) 73 0 [(0, .ref 5)] [] (I, J, R, 138) = some (none, (I', J, R, 138)) ∧ scX T n p I' ∧ ∀ q j, ¬ scC q j → I' q j = I q j := by
  have hn := hT.1
  obtain ⟨ab1, ab2⟩ := tAt_b (T := T) hp
  obtain ⟨eb1, eb2, eb3⟩ := tE_b (T := T) hp
  obtain ⟨w, hw⟩ : ∃ w : Int, w = if kk = 1 ∨ kk = 2 then 1 else 0 := ⟨_, rfl⟩
  have hw01 : w = 0 ∨ w = 1 := by rw [hw]; split <;> simp
  have hw1 : w = 1 ↔ (kk = 1 ∨ kk = 2) := by rw [hw]; split <;> simp_all
  obtain ⟨I1, p1, p2, p3⟩ := x_n42 (d := d + 3) (J := J) hx hT (w := am_i w) (p := p) (tAt T n p - p) p (am_up I 5 4 (am_i p)) (by omega) (Nat.le_refl _) hp (fun q j h => am_up_o (by omega)) (by rw [am_up_o (by omega)]; exact e2) am_up_e
  have g1 : ∀ q j, ¬ (q = 5 ∧ j = 4) → I1 q j = I q j := fun q j h => by rw [p2 q j h, am_up_o h]
  have w2 : I1 5 2 = am_i n := by rw [g1 _ _ (by omega)]; exact e2
  have w10 : I1 5 10 = am_i 0 := by rw [g1 _ _ (by omega)]; exact e10
  have st : am_E (d + 4) 73 0 [(0, .ref 5)] [] (I, J, R, 138) = am_E (d + 4) 73 85 [(0, .ref 5), (1, .int (am_i w)), (2, .int (am_i p))] [] (I1, J, R, 138) := by
    rw [← p1, sg_X9_next_0]
    by_cases q1 : kk = 1
    · have ww : w = 1 := hw1.mpr (Or.inl q1)
      rw [ww]
      simp (disch := first | assumption | omega) only [rX hx, ly_csx, ly_cax, ly_cf, ly_kd, ly_ln, ↓Bool.cond_decide, cond_true, cond_false, ↓bI_p, ↓bV_p, ↓bL_p, bIJ_s, bVJ_s, bLJ_s, ↓am_let_s, Nat.blt, Nat.ble, Bool.and_true, Bool.true_and, Bool.and_self, Int.cast_ofNat_Int, am_i_add, am_i_sub, am_i_mul, am_ok_i, am_i_cl, n_lt, n_le, n_eq, n_lt0, n_le0, n_0lt, n_0le, n_eq0, ne_eq, ↓reduceIte, not_true_eq_false, not_false_eq_true, and_true, true_and, and_false, false_and, eq_T, eq_F, lt_T, lt_F, le_T, le_F, qn_T, qn_F, and_F, b01_T, b01_F, e_isIn, Int32.toInt_toInt64, am_i_toInt, am_l_toInt, Int.toNat_natCast, Int.reduceToNat, Int.reduceAdd, Int.reduceSub, Int.reduceMul, Int.reduceNeg, Nat.reduceAdd, Nat.reduceMul, Nat.add_zero, Nat.mul_zero, Nat.zero_add, am_zb0, am_zb1, e10, e5, e3, sg_X9_next_24]
    · by_cases q2 : kk = 2
      · have ww : w = 1 := hw1.mpr (Or.inr q2)
        rw [ww]
        simp (disch := first | assumption | omega) only [rX hx, ly_csx, ly_cax, ly_cf, ly_kd, ly_ln, ↓Bool.cond_decide, cond_true, cond_false, ↓bI_p, ↓bV_p, ↓bL_p, bIJ_s, bVJ_s, bLJ_s, ↓am_let_s, Nat.blt, Nat.ble, Bool.and_true, Bool.true_and, Bool.and_self, Int.cast_ofNat_Int, am_i_add, am_i_sub, am_i_mul, am_ok_i, am_i_cl, n_lt, n_le, n_eq, n_lt0, n_le0, n_0lt, n_0le, n_eq0, ne_eq, ↓reduceIte, not_true_eq_false, not_false_eq_true, and_true, true_and, and_false, false_and, eq_T, eq_F, lt_T, lt_F, le_T, le_F, qn_T, qn_F, and_F, b01_T, b01_F, e_isIn, Int32.toInt_toInt64, am_i_toInt, am_l_toInt, Int.toNat_natCast, Int.reduceToNat, Int.reduceAdd, Int.reduceSub, Int.reduceMul, Int.reduceNeg, Nat.reduceAdd, Nat.reduceMul, Nat.add_zero, Nat.mul_zero, Nat.zero_add, am_zb0, am_zb1, e10, e5, e3, sg_X9_next_24]
      · have ww : w = 0 := by
          rcases hw01 with h | h
          · exact h
          · have := hw1.mp h; omega
        rw [ww]
        simp (disch := first | assumption | omega) only [rX hx, ly_csx, ly_cax, ly_cf, ly_kd, ly_ln, ↓Bool.cond_decide, cond_true, cond_false, ↓bI_p, ↓bV_p, ↓bL_p, bIJ_s, bVJ_s, bLJ_s, ↓am_let_s, Nat.blt, Nat.ble, Bool.and_true, Bool.true_and, Bool.and_self, Int.cast_ofNat_Int, am_i_add, am_i_sub, am_i_mul, am_ok_i, am_i_cl, n_lt, n_le, n_eq, n_lt0, n_le0, n_0lt, n_0le, n_eq0, ne_eq, ↓reduceIte, not_true_eq_false, not_false_eq_true, and_true, true_and, and_false, false_and, eq_T, eq_F, lt_T, lt_F, le_T, le_F, qn_T, qn_F, and_F, b01_T, b01_F, e_isIn, Int32.toInt_toInt64, am_i_toInt, am_l_toInt, Int.toNat_natCast, Int.reduceToNat, Int.reduceAdd, Int.reduceSub, Int.reduceMul, Int.reduceNeg, Nat.reduceAdd, Nat.reduceMul, Nat.add_zero, Nat.mul_zero, Nat.zero_add, am_zb0, am_zb1, e10, e5, e3]
  have txc : ∀ I' : tI, (∀ q j, ¬ scC q j → I' q j = I q j) → txX T n I' R := fun I' h => ⟨hn, hT.2.1, fun k hk => ⟨(hT.2.2.1 k hk).1, by rw [h _ _ (by unfold scC; omega)]; exact (hT.2.2.1 k hk).2⟩, by rw [← hT.2.2.2]; exact funext fun k => h _ _ (by unfold scC; omega)⟩
  have wI : ∀ q j, ¬ scC q j → I1 q j = I q j := fun q j h => by
    unfold scC at h
    exact g1 q j (by omega)
  rw [st, sg_X9_next_85]
  have rl := fun d => x_runL (d := d) (J := J) hx (txc I1 wI) w2 p3 ab2
  have rd := fun d => x_runD (d := d) (J := J) hx (txc I1 wI) w2 p3 ab2
  obtain ⟨lc, hlc⟩ : ∃ lc, lc = spn lB T n (tAt T n p) - tAt T n p := ⟨_, rfl⟩
  obtain ⟨dc, hdc⟩ : ∃ dc, dc = spn dB T n (tAt T n p) - tAt T n p := ⟨_, rfl⟩
  rw [← hlc] at rl
  rw [← hdc] at rd
  have lge := sp_ge (c := lB) (T := T) (n := n) (tAt T n p)
  have dge := sp_ge (c := dB) (T := T) (n := n) (tAt T n p)
  have lle := sp_le (c := lB) (T := T) (n := n) ab2
  have dle := sp_le (c := dB) (T := T) (n := n) ab2
  -- the end: kind and what it was glued to
  have fin : ∀ (k : Nat) (I3 : tI), (∀ q j, ¬ scC q j → I3 q j = I q j) → I3 5 2 = am_i n → I3 5 4 = am_i (tAt T n p) → I3 5 5 = am_i k → k ≤ 3 → ((k = 1 ∨ k = 2) → tAt T n p < n ∧ (lB (T (tAt T n p)) = true ∨ dB (T (tAt T n p)) = true)) → tK T n p = (if (k = 1 ∨ k = 2) ∧ tGl T p (tAt T n p) = true then 4 else k) → I3 5 3 = am_i (tE T n p) → (k = 1 → I3 5 6 = am_i (tN T n p) ∧ I3 5 8 = am_i (wix (tL T n p)) ∧ (tN T n p ≤ 6 → I3 5 9 = am_i (pk5 (tL T n p)))) → (k = 2 → I3 5 6 = am_i (tN T n p) ∧ I3 5 7 = am_i (tV T n p)) → (k = 3 → I3 5 7 = am_i (T (tAt T n p))) → ∃ I', am_E (d + 4) 73 185 [(0, .ref 5), (1, .int (am_i w)), (2, .int (am_i p))] [] (I3, J, R, 138) = some (none, (I', J, R, 138)) ∧ scX T n p I' ∧ ∀ q j, ¬ scC q j → I' q j = I q j := by
    intro k I3 a1 a2 a4 a5 a6 a9 a7 a8 b1 b2 b3
    have f := x_n185 (d := d + 3) (J := J) (R := R) (T := T) hx (p := p) (w := w) hn ab2 hp a4 a5 a6 hw01 (fun h1 h2 => by
      obtain ⟨c1, c2⟩ := a9 h1
      rw [h2] at c1 c2 ⊢
      rw [hw1]
      exact hg c1 h2 c2)
    refine ⟨_, f, ?_, ?_⟩
    · by_cases q : (k = 1 ∨ k = 2) ∧ tGl T p (tAt T n p) = true
      · rw [if_pos q] at a7 ⊢
        refine ⟨by rw [am_up_o (by omega)]; exact a2, by rw [am_up_o (by omega)]; exact a8, by rw [am_up_o (by omega)]; exact a4, by rw [am_up_e, a7]; rfl, by rw [am_up_o (by omega), a1 _ _ (by unfold scC; omega)]; exact e10, fun h => by omega, fun h => by omega, fun h => by omega⟩
      · rw [if_neg q] at a7 ⊢
        refine ⟨a2, a8, a4, by rw [a5, a7], by rw [a1 _ _ (by unfold scC; omega)]; exact e10, fun h => b1 (by omega), fun h => b2 (by omega), fun h => b3 (by omega)⟩
    · intro q j h
      split
      · unfold scC at h
        rw [am_up_o (by omega)]
        exact a1 q j h
      · exact a1 q j h
  by_cases q0 : n ≤ tAt T n p
  · have l0 : lc = 0 := by omega
    have d0 : dc = 0 := by omega
    have y4' : ∀ v, am_up I1 5 5 v 5 4 = am_i (tAt T n p) := fun v => by rw [am_up_o (by omega)]; exact p3
    have z : ∀ q j, ¬ (q = 5 ∧ (j = 3 ∨ j = 5)) → am_up (am_up I1 5 5 (am_i 0)) 5 3 (am_i (tAt T n p)) q j = I1 q j := fun q j h => by rw [am_up_o (by omega), am_up_o (by omega)]
    obtain ⟨I', f1, f2⟩ := fin 0 (am_up (am_up I1 5 5 (am_i 0)) 5 3 (am_i (tAt T n p))) (fun q j h => by have h' := h; unfold scC at h'; rw [z q j (by omega)]; exact wI q j h) (by rw [z _ _ (by omega)]; exact w2) (by rw [z _ _ (by omega)]; exact p3) (by rw [am_up_o (by omega), am_up_e]; rfl) (by omega) (fun h => by omega) (by unfold tK; rw [if_pos q0, if_neg (by omega)]) (by rw [am_up_e]; unfold tE; rw [if_pos q0]) (fun h => by omega) (fun h => by omega) (fun h => by omega)
    refine ⟨I', ?_, f2⟩
    rw [← f1]
    simp (disch := first | assumption | omega) only [rX hx, ly_csx, ly_cax, ly_cf, ly_kd, ly_ln, ↓Bool.cond_decide, cond_true, cond_false, ↓bI_p, ↓bV_p, ↓bL_p, bIJ_s, bVJ_s, bLJ_s, ↓am_let_s, Nat.blt, Nat.ble, Bool.and_true, Bool.true_and, Bool.and_self, Int.cast_ofNat_Int, am_i_add, am_i_sub, am_i_mul, am_ok_i, am_i_cl, n_lt, n_le, n_eq, n_lt0, n_le0, n_0lt, n_0le, n_eq0, ne_eq, ↓reduceIte, not_true_eq_false, not_false_eq_true, and_true, true_and, and_false, false_and, eq_T, eq_F, lt_T, lt_F, le_T, le_F, qn_T, qn_F, and_F, b01_T, b01_F, e_isIn, Int32.toInt_toInt64, am_i_toInt, am_l_toInt, Int.toNat_natCast, Int.reduceToNat, Int.reduceAdd, Int.reduceSub, Int.reduceMul, Int.reduceNeg, Nat.reduceAdd, Nat.reduceMul, Nat.add_zero, Nat.mul_zero, Nat.zero_add, am_zb0, am_zb1, rl, rd, p3, w2, y4']
  · obtain ⟨u1, u2⟩ := hT.2.2.1 (tAt T n p) (by omega)
    have i4 : I1 4 (tAt T n p) = am_i (T (tAt T n p)) := by rw [wI _ _ (by unfold scC; omega)]; exact u2
    by_cases q1 : lB (T (tAt T n p)) = true
    · have hE : tE T n p = spn lB T n (tAt T n p) := by unfold tE; rw [if_neg q0, if_pos q1]
      have hN : tN T n p = lc := by unfold tN; rw [hE, hlc]
      have lpos : 0 < lc := by omega
      have eE : (tAt T n p : Int) + (lc : Int) = ((tE T n p : Nat) : Int) := by omega
      have z : ∀ q j, ¬ (q = 5 ∧ (j = 3 ∨ j = 5 ∨ j = 6 ∨ j = 9)) → am_up (am_up (am_up (am_up I1 5 5 (am_i 1)) 5 6 (am_i lc)) 5 3 (am_i (tE T n p))) 5 9 (am_i 0) q j = I1 q j := fun q j h => by rw [am_up_o (by omega), am_up_o (by omega), am_up_o (by omega), am_up_o (by omega)]
      have z5 : am_up (am_up (am_up (am_up I1 5 5 (am_i 1)) 5 6 (am_i lc)) 5 3 (am_i (tE T n p))) 5 9 (am_i 0) 5 5 = am_i 1 := by rw [am_up_o (by omega), am_up_o (by omega), am_up_o (by omega), am_up_e]
      have z6 : am_up (am_up (am_up (am_up I1 5 5 (am_i 1)) 5 6 (am_i lc)) 5 3 (am_i (tE T n p))) 5 9 (am_i 0) 5 6 = am_i lc := by rw [am_up_o (by omega), am_up_o (by omega), am_up_e]
      have z3 : am_up (am_up (am_up (am_up I1 5 5 (am_i 1)) 5 6 (am_i lc)) 5 3 (am_i (tE T n p))) 5 9 (am_i 0) 5 3 = am_i (tE T n p) := by rw [am_up_o (by omega), am_up_e]
      have z9 : am_up (am_up (am_up (am_up I1 5 5 (am_i 1)) 5 6 (am_i lc)) 5 3 (am_i (tE T n p))) 5 9 (am_i 0) 5 9 = am_i (pk5 (rlS T 0 (tAt T n p))) := by
        have e0 : pk5 [] = 0 := by unfold pk5; simp
        rw [am_up_e, show rlS T 0 (tAt T n p) = [] from rfl, e0]
        rfl
      have hL : ∀ k, k < lc → lB (T (tAt T n p + k)) = true := fun k hk => (sp_in (c := lB) (T := T) (n := n) (p := tAt T n p) (q := tAt T n p + k) (by omega) (by omega)).2
      obtain ⟨I3, r1, r2, r5⟩ := x_rw27 (d := d + 2) (J := J) hx (I0 := I1) (a := tAt T n p) (N := lc) (txc I1 wI) (by omega) hL (min 6 lc) 0 (am_up (am_up (am_up (am_up I1 5 5 (am_i 1)) 5 6 (am_i lc)) 5 3 (am_i (tE T n p))) 5 9 (am_i 0)) (by omega) (fun q j h => z q j (by omega)) (by rw [z _ _ (by omega)]; exact p3) z9
      have r1' : am_E (d + 3) 75 27 [(0, .ref 5), (1, .int (am_i lc)), (2, .int (am_i 0))] [] (am_up (am_up (am_up (am_up I1 5 5 (am_i 1)) 5 6 (am_i lc)) 5 3 (am_i (tE T n p))) 5 9 (am_i 0), J, R, 138) = _ := r1
      have k6 : tN T n p ≤ 6 → pk5 (rlS T (min 6 lc) (tAt T n p)) = pk5 (tL T n p) := fun h => by
        unfold tL
        rw [hN] at h ⊢
        rw [show min 6 lc = lc by omega]
      have lt : ∀ x ∈ tL T n p, 1 ≤ x ∧ x ≤ 26 := fun x hx' => by
        obtain ⟨k, k1, k2⟩ := rlS_m _ _ _ hx'
        have := lB_t.mp (hL k (by omega))
        omega
      obtain ⟨I4, s1, s2, s3⟩ := x_rw82 (d := d + 2) (J := J) (R := R) hx (l := tL T n p) (k := tN T n p) (nm := I3 5 9) (by omega) (rlS_l _ _) (fun h => ⟨by rw [r5, k6 h], lt⟩) 32 0 (am_up I3 5 8 (am_i (-1))) (-1) (by omega) (by
        rw [am_up_ap, if_neg (by omega), ← hT.2.2.2]
        exact funext fun k => by rw [r2 _ _ (by omega), z _ _ (by omega), wI _ _ (by unfold scC; omega)]) (by rw [am_up_o (by omega), r2 _ _ (by omega), z6, hN]) (by rw [am_up_o (by omega)]) am_up_e (by rw [if_neg (fun ⟨j, j1, _⟩ => by omega)])
      have s1' : am_E (d + 3) 75 82 [(0, .ref 5), (2, .int (am_i 0))] [] (am_up I3 5 8 (am_i (-1)), J, R, 138) = _ := s1
      have y4 : am_up (am_up I1 5 5 (am_i 1)) 5 6 (am_i lc) 5 4 = am_i (tAt T n p) := by rw [am_up_o (by omega), am_up_o (by omega)]; exact p3
      have rw' : am_E (d + 3) 75 0 [(0, .ref 5), (1, .int (am_i lc))] [] (I1, J, R, 138) = some (none, (I4, J, R, 138)) := by
        rw [sg_X9_readWord_0]
        simp (disch := first | assumption | omega) only [rX hx, ly_csx, ly_cax, ly_cf, ly_kd, ly_ln, ↓Bool.cond_decide, cond_true, cond_false, ↓bI_p, ↓bV_p, ↓bL_p, bIJ_s, bVJ_s, bLJ_s, ↓am_let_s, Nat.blt, Nat.ble, Bool.and_true, Bool.true_and, Bool.and_self, Int.cast_ofNat_Int, am_i_add, am_i_sub, am_i_mul, am_ok_i, am_i_cl, n_lt, n_le, n_eq, n_lt0, n_le0, n_0lt, n_0le, n_eq0, ne_eq, ↓reduceIte, not_true_eq_false, not_false_eq_true, and_true, true_and, and_false, false_and, eq_T, eq_F, lt_T, lt_F, le_T, le_F, qn_T, qn_F, and_F, b01_T, b01_F, e_isIn, Int32.toInt_toInt64, am_i_toInt, am_l_toInt, Int.toNat_natCast, Int.reduceToNat, Int.reduceAdd, Int.reduceSub, Int.reduceMul, Int.reduceNeg, Nat.reduceAdd, Nat.reduceMul, Nat.add_zero, Nat.mul_zero, Nat.zero_add, am_zb0, am_zb1, y4, eE, r1', sg_X9_readWord_75, s1']
      have g4 : ∀ q j, ¬ (q = 5 ∧ (j = 3 ∨ j = 5 ∨ j = 6 ∨ j = 8 ∨ j = 9)) → I4 q j = I1 q j := fun q j h => by rw [s2 q j (by omega), am_up_o (by omega), r2 q j (by omega), z q j (by omega)]
      have g4' : ∀ j, j ≠ 8 → j ≠ 9 → I4 5 j = am_up (am_up (am_up (am_up I1 5 5 (am_i 1)) 5 6 (am_i lc)) 5 3 (am_i (tE T n p))) 5 9 (am_i 0) 5 j := fun j h1 h2 => by rw [s2 _ _ (by omega), am_up_o (by omega), r2 _ _ (by omega)]
      obtain ⟨I', f1, f2⟩ := fin 1 I4 (fun q j h => by have h' := h; unfold scC at h'; rw [g4 q j (by omega)]; exact wI q j h) (by rw [g4 _ _ (by omega)]; exact w2) (by rw [g4 _ _ (by omega)]; exact p3) (by rw [g4' _ (by omega) (by omega), z5]; rfl) (by omega) (fun _ => ⟨by omega, Or.inl q1⟩) (by
        unfold tK
        rw [if_neg q0, if_pos q1]
        by_cases qg : tGl T p (tAt T n p) = true
        · rw [if_pos qg, if_pos ⟨Or.inl rfl, qg⟩]
        · rw [if_neg qg, if_neg (fun e => qg e.2)]) (by rw [g4' _ (by omega) (by omega), z3]) (fun _ => ⟨by rw [g4' _ (by omega) (by omega), z6, hN], s3, fun h => by rw [s2 _ _ (by omega), am_up_o (by omega), r5, k6 h]⟩) (fun h => by omega) (fun h => by omega)
      refine ⟨I', ?_, f2⟩
      rw [← f1]
      simp (disch := first | assumption | omega) only [rX hx, ly_csx, ly_cax, ly_cf, ly_kd, ly_ln, ↓Bool.cond_decide, cond_true, cond_false, ↓bI_p, ↓bV_p, ↓bL_p, bIJ_s, bVJ_s, bLJ_s, ↓am_let_s, Nat.blt, Nat.ble, Bool.and_true, Bool.true_and, Bool.and_self, Int.cast_ofNat_Int, am_i_add, am_i_sub, am_i_mul, am_ok_i, am_i_cl, n_lt, n_le, n_eq, n_lt0, n_le0, n_0lt, n_0le, n_eq0, ne_eq, ↓reduceIte, not_true_eq_false, not_false_eq_true, and_true, true_and, and_false, false_and, eq_T, eq_F, lt_T, lt_F, le_T, le_F, qn_T, qn_F, and_F, b01_T, b01_F, e_isIn, Int32.toInt_toInt64, am_i_toInt, am_l_toInt, Int.toNat_natCast, Int.reduceToNat, Int.reduceAdd, Int.reduceSub, Int.reduceMul, Int.reduceNeg, Nat.reduceAdd, Nat.reduceMul, Nat.add_zero, Nat.mul_zero, Nat.zero_add, am_zb0, am_zb1, rl, rd, rw']
    · have l0 : lc = 0 := by rw [hlc, sp_0 (fun e => q1 e.2)]; omega
      by_cases q2 : dB (T (tAt T n p)) = true
      · have hE : tE T n p = spn dB T n (tAt T n p) := by unfold tE; rw [if_neg q0, if_neg q1, if_pos q2]
        have hN : tN T n p = dc := by unfold tN; rw [hE, hdc]
        have dpos : 0 < dc := by omega
        have eE : (tAt T n p : Int) + (dc : Int) = ((tE T n p : Nat) : Int) := by omega
        have z : ∀ q j, ¬ (q = 5 ∧ (j = 3 ∨ j = 5 ∨ j = 6 ∨ j = 7)) → am_up (am_up (am_up (am_up I1 5 5 (am_i 2)) 5 6 (am_i dc)) 5 3 (am_i (tE T n p))) 5 7 (am_i 0) q j = I1 q j := fun q j h => by rw [am_up_o (by omega), am_up_o (by omega), am_up_o (by omega), am_up_o (by omega)]
        have z5 : am_up (am_up (am_up (am_up I1 5 5 (am_i 2)) 5 6 (am_i dc)) 5 3 (am_i (tE T n p))) 5 7 (am_i 0) 5 5 = am_i 2 := by rw [am_up_o (by omega), am_up_o (by omega), am_up_o (by omega), am_up_e]
        have z6 : am_up (am_up (am_up (am_up I1 5 5 (am_i 2)) 5 6 (am_i dc)) 5 3 (am_i (tE T n p))) 5 7 (am_i 0) 5 6 = am_i dc := by rw [am_up_o (by omega), am_up_o (by omega), am_up_e]
        have z3 : am_up (am_up (am_up (am_up I1 5 5 (am_i 2)) 5 6 (am_i dc)) 5 3 (am_i (tE T n p))) 5 7 (am_i 0) 5 3 = am_i (tE T n p) := by rw [am_up_o (by omega), am_up_e]
        have z7 : am_up (am_up (am_up (am_up I1 5 5 (am_i 2)) 5 6 (am_i dc)) 5 3 (am_i (tE T n p))) 5 7 (am_i 0) 5 7 = am_i (nvS T (tAt T n p) 0) := by rw [am_up_e]; rfl
        have hL : ∀ k, k < dc → dB (T (tAt T n p + k)) = true := fun k hk => (sp_in (c := dB) (T := T) (n := n) (p := tAt T n p) (q := tAt T n p + k) (by omega) (by omega)).2
        obtain ⟨I3, r1, r2, r5⟩ := x_rn27 (d := d + 2) (J := J) hx (I0 := I1) (a := tAt T n p) (N := dc) (txc I1 wI) (by omega) hL (min 4 dc) 0 (am_up (am_up (am_up (am_up I1 5 5 (am_i 2)) 5 6 (am_i dc)) 5 3 (am_i (tE T n p))) 5 7 (am_i 0)) (by omega) (fun q j h => z q j (by omega)) (by rw [z _ _ (by omega)]; exact p3) z7
        have r1' : am_E (d + 3) 76 27 [(0, .ref 5), (1, .int (am_i dc)), (2, .int (am_i 0))] [] (am_up (am_up (am_up (am_up I1 5 5 (am_i 2)) 5 6 (am_i dc)) 5 3 (am_i (tE T n p))) 5 7 (am_i 0), J, R, 138) = _ := r1
        have y4 : am_up (am_up I1 5 5 (am_i 2)) 5 6 (am_i dc) 5 4 = am_i (tAt T n p) := by rw [am_up_o (by omega), am_up_o (by omega)]; exact p3
        have rn' : am_E (d + 3) 76 0 [(0, .ref 5), (1, .int (am_i dc))] [] (I1, J, R, 138) = some (none, (I3, J, R, 138)) := by
          rw [sg_X9_readNumber_0]
          simp (disch := first | assumption | omega) only [rX hx, ly_csx, ly_cax, ly_cf, ly_kd, ly_ln, ↓Bool.cond_decide, cond_true, cond_false, ↓bI_p, ↓bV_p, ↓bL_p, bIJ_s, bVJ_s, bLJ_s, ↓am_let_s, Nat.blt, Nat.ble, Bool.and_true, Bool.true_and, Bool.and_self, Int.cast_ofNat_Int, am_i_add, am_i_sub, am_i_mul, am_ok_i, am_i_cl, n_lt, n_le, n_eq, n_lt0, n_le0, n_0lt, n_0le, n_eq0, ne_eq, ↓reduceIte, not_true_eq_false, not_false_eq_true, and_true, true_and, and_false, false_and, eq_T, eq_F, lt_T, lt_F, le_T, le_F, qn_T, qn_F, and_F, b01_T, b01_F, e_isIn, Int32.toInt_toInt64, am_i_toInt, am_l_toInt, Int.toNat_natCast, Int.reduceToNat, Int.reduceAdd, Int.reduceSub, Int.reduceMul, Int.reduceNeg, Nat.reduceAdd, Nat.reduceMul, Nat.add_zero, Nat.mul_zero, Nat.zero_add, am_zb0, am_zb1, y4, eE, r1']
        have g3 : ∀ q j, ¬ (q = 5 ∧ (j = 3 ∨ j = 5 ∨ j = 6 ∨ j = 7)) → I3 q j = I1 q j := fun q j h => by rw [r2 q j (by omega), z q j (by omega)]
        obtain ⟨I', f1, f2⟩ := fin 2 I3 (fun q j h => by have h' := h; unfold scC at h'; rw [g3 q j (by omega)]; exact wI q j h) (by rw [g3 _ _ (by omega)]; exact w2) (by rw [g3 _ _ (by omega)]; exact p3) (by rw [r2 _ _ (by omega), z5]; rfl) (by omega) (fun _ => ⟨by omega, Or.inr q2⟩) (by
          unfold tK
          rw [if_neg q0, if_neg q1, if_pos q2]
          by_cases qg : tGl T p (tAt T n p) = true
          · rw [if_pos qg, if_pos ⟨Or.inr rfl, qg⟩]
          · rw [if_neg qg, if_neg (fun e => qg e.2)]) (by rw [r2 _ _ (by omega), z3]) (fun h => by omega) (fun _ => ⟨by rw [r2 _ _ (by omega), z6, hN], by rw [r5]; unfold tV; rw [hN]⟩) (fun h => by omega)
        refine ⟨I', ?_, f2⟩
        rw [← f1]
        simp (disch := first | assumption | omega) only [rX hx, ly_csx, ly_cax, ly_cf, ly_kd, ly_ln, ↓Bool.cond_decide, cond_true, cond_false, ↓bI_p, ↓bV_p, ↓bL_p, bIJ_s, bVJ_s, bLJ_s, ↓am_let_s, Nat.blt, Nat.ble, Bool.and_true, Bool.true_and, Bool.and_self, Int.cast_ofNat_Int, am_i_add, am_i_sub, am_i_mul, am_ok_i, am_i_cl, n_lt, n_le, n_eq, n_lt0, n_le0, n_0lt, n_0le, n_eq0, ne_eq, ↓reduceIte, not_true_eq_false, not_false_eq_true, and_true, true_and, and_false, false_and, eq_T, eq_F, lt_T, lt_F, le_T, le_F, qn_T, qn_F, and_F, b01_T, b01_F, e_isIn, Int32.toInt_toInt64, am_i_toInt, am_l_toInt, Int.toNat_natCast, Int.reduceToNat, Int.reduceAdd, Int.reduceSub, Int.reduceMul, Int.reduceNeg, Nat.reduceAdd, Nat.reduceMul, Nat.add_zero, Nat.mul_zero, Nat.zero_add, am_zb0, am_zb1, rl, rd, rn']
      · have d0 : dc = 0 := by rw [hdc, sp_0 (fun e => q2 e.2)]; omega
        have hE : tE T n p = tAt T n p + 1 := by unfold tE; rw [if_neg q0, if_neg q1, if_neg q2]
        have y4 : ∀ v w, am_up (am_up I1 5 5 v) 5 7 w 5 4 = am_i (tAt T n p) := fun v w => by rw [am_up_o (by omega), am_up_o (by omega)]; exact p3
        have y4' : ∀ v, am_up I1 5 5 v 5 4 = am_i (tAt T n p) := fun v => by rw [am_up_o (by omega)]; exact p3
        have y44 : ∀ v, am_up I1 5 5 v 4 (tAt T n p) = am_i (T (tAt T n p)) := fun v => by rw [am_up_o (by omega)]; exact i4
        have z : ∀ q j, ¬ (q = 5 ∧ (j = 3 ∨ j = 5 ∨ j = 7)) → am_up (am_up (am_up I1 5 5 (am_i 3)) 5 7 (am_i (T (tAt T n p)))) 5 3 (am_i (tAt T n p + 1 : Nat)) q j = I1 q j := fun q j h => by rw [am_up_o (by omega), am_up_o (by omega), am_up_o (by omega)]
        obtain ⟨I', f1, f2⟩ := fin 3 (am_up (am_up (am_up I1 5 5 (am_i 3)) 5 7 (am_i (T (tAt T n p)))) 5 3 (am_i (tAt T n p + 1 : Nat))) (fun q j h => by have h' := h; unfold scC at h'; rw [z q j (by omega)]; exact wI q j h) (by rw [z _ _ (by omega)]; exact w2) (by rw [z _ _ (by omega)]; exact p3) (by rw [am_up_o (by omega), am_up_o (by omega), am_up_e]; rfl) (by omega) (fun h => by omega) (by
          unfold tK
          rw [if_neg q0, if_neg q1, if_neg q2, if_neg (by omega)]) (by rw [am_up_e, hE]) (fun h => by omega) (fun h => by omega) (fun _ => by rw [am_up_o (by omega), am_up_e])
        refine ⟨I', ?_, f2⟩
        rw [← f1]
        simp (disch := first | assumption | omega) only [rX hx, ly_csx, ly_cax, ly_cf, ly_kd, ly_ln, ↓Bool.cond_decide, cond_true, cond_false, ↓bI_p, ↓bV_p, ↓bL_p, bIJ_s, bVJ_s, bLJ_s, ↓am_let_s, Nat.blt, Nat.ble, Bool.and_true, Bool.true_and, Bool.and_self, Int.cast_ofNat_Int, am_i_add, am_i_sub, am_i_mul, am_ok_i, am_i_cl, n_lt, n_le, n_eq, n_lt0, n_le0, n_0lt, n_0le, n_eq0, ne_eq, ↓reduceIte, not_true_eq_false, not_false_eq_true, and_true, true_and, and_false, false_and, eq_T, eq_F, lt_T, lt_F, le_T, le_F, qn_T, qn_F, and_F, b01_T, b01_F, e_isIn, Int32.toInt_toInt64, am_i_toInt, am_l_toInt, Int.toNat_natCast, Int.reduceToNat, Int.reduceAdd, Int.reduceSub, Int.reduceMul, Int.reduceNeg, Nat.reduceAdd, Nat.reduceMul, Nat.add_zero, Nat.mul_zero, Nat.zero_add, am_zb0, am_zb1, hT.2.1, rl, rd, p3, w2, y4', y44, y4, am_i_s]
/-- the kind of a token tells what stands ahead of the next one -/
theorem sc_g {p : Nat} (hp : p ≤ n) (h4 : tK T n p ≠ 4) (hlt : tE T n p < n) : (tK T n p = 1 ∨ tK T n p = 2) ↔ tGl T (tE T n p) (tE T n p) = true := by
  obtain ⟨ab1, ab2⟩ := tAt_b (T := T) hp
  obtain ⟨eb1, eb2, eb3⟩ := tE_b (T := T) hp
  by_cases q0 : n ≤ tAt T n p
  · omega
  · have e3 := eb3 (by omega)
    have g : tGl T (tE T n p) (tE T n p) = (lB (T (tE T n p - 1)) || dB (T (tE T n p - 1))) := by
      unfold tGl
      rw [decide_eq_true (show tE T n p = tE T n p ∧ 0 < tE T n p by omega), Bool.true_and]
    rw [g]
    by_cases q1 : lB (T (tAt T n p)) = true
    · have hE : tE T n p = spn lB T n (tAt T n p) := by unfold tE; rw [if_neg q0, if_pos q1]
      have k := (sp_in (c := lB) (T := T) (n := n) (p := tAt T n p) (q := tE T n p - 1) (by omega) (by omega)).2
      rw [k, Bool.true_or]
      have hk : tK T n p = (if tGl T p (tAt T n p) = true then 4 else 1) := by unfold tK; rw [if_neg q0, if_pos q1]
      by_cases qg : tGl T p (tAt T n p) = true
      · rw [if_pos qg] at hk; exact absurd hk h4
      · rw [if_neg qg] at hk; simp [hk]
    · by_cases q2 : dB (T (tAt T n p)) = true
      · have hE : tE T n p = spn dB T n (tAt T n p) := by unfold tE; rw [if_neg q0, if_neg q1, if_pos q2]
        have k := (sp_in (c := dB) (T := T) (n := n) (p := tAt T n p) (q := tE T n p - 1) (by omega) (by omega)).2
        rw [k, Bool.or_true]
        have hk : tK T n p = (if tGl T p (tAt T n p) = true then 4 else 2) := by unfold tK; rw [if_neg q0, if_neg q1, if_pos q2]
        by_cases qg : tGl T p (tAt T n p) = true
        · rw [if_pos qg] at hk; exact absurd hk h4
        · rw [if_neg qg] at hk; simp [hk]
      · have hE : tE T n p = tAt T n p + 1 := by unfold tE; rw [if_neg q0, if_neg q1, if_neg q2]
        have hk : tK T n p = 3 := by unfold tK; rw [if_neg q0, if_neg q1, if_neg q2]
        rw [hE, Nat.add_sub_cancel, hk]
        have q1' : lB (T (tAt T n p)) = false := by simpa using q1
        have q2' : dB (T (tAt T n p)) = false := by simpa using q2
        rw [q1', q2']
        simp
end NEXT
