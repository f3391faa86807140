/-! ===== on ===== -/
def okN (f : Nat → Nat) (o : Nat) : Nat → Nat → Bool
  | 0, _ => true
  | m + 1, k => if f (o + 5 + k) < 8 then okN f o m (k + 1) else false
def okB (last n : Nat) (f : Nat → Nat) (o : Nat) : Bool := if f o ≤ last ∧ f (o + 1) ≤ 99 ∧ f (o + 2) ≤ 99 ∧ f (o + 3) ≤ 1 ∧ ¬ (f (o + 3) = 1 ∧ f o = last) ∧ f (o + 4) ≤ n - 1 then okN f o n 0 else false
def okA (last : Nat) (nt : Nat → Nat) (f : Nat → Nat) : Nat → Nat → Bool
  | 0, _ => true
  | m + 1, i => if okB last (nt i) f (ofS nt i) = true then okA last nt f m (i + 1) else false
def okI (last nb : Nat) (nt : Nat → Nat) (f : Nat → Nat) (n : Nat) : Bool := if n = ofS nt nb + 1 ∧ f (ofS nt nb) = ckS f (ofS nt nb) 0 193 ∧ f 0 * 256 + f 1 ≤ 999 then okA last nt f nb 0 else false
theorem okN_t {f : Nat → Nat} {o : Nat} : ∀ (m k : Nat), okN f o m k = true → ∀ j, k ≤ j → j < k + m → f (o + 5 + j) < 8
  | 0, k, _, j, j1, j2 => by omega
  | m + 1, k, h, j, j1, j2 => by
    by_cases q : f (o + 5 + k) < 8
    · have e : okN f o (m + 1) k = okN f o m (k + 1) := if_pos q
      by_cases c : j = k
      · rw [c]; exact q
      · exact okN_t m (k + 1) (e ▸ h) j (by omega) (by omega)
    · have e : okN f o (m + 1) k = false := if_neg q
      rw [e] at h; cases h
theorem okB_t {last n : Nat} {f : Nat → Nat} {o : Nat} (h : okB last n f o = true) : (f o ≤ last ∧ f (o + 1) ≤ 99 ∧ f (o + 2) ≤ 99 ∧ f (o + 3) ≤ 1 ∧ ¬ (f (o + 3) = 1 ∧ f o = last) ∧ f (o + 4) ≤ n - 1) ∧ ∀ k, k < n → f (o + 5 + k) < 8 := by
  unfold okB at h
  split at h
  · next q => exact ⟨q, fun k hk => okN_t n 0 h k (by omega) (by omega)⟩
  · cases h
theorem okA_t {last : Nat} {nt : Nat → Nat} {f : Nat → Nat} : ∀ (m i : Nat), okA last nt f m i = true → ∀ b, i ≤ b → b < i + m → okB last (nt b) f (ofS nt b) = true
  | 0, i, _, j, j1, j2 => by omega
  | m + 1, i, h, j, j1, j2 => by
    by_cases q : okB last (nt i) f (ofS nt i) = true
    · have e : okA last nt f (m + 1) i = okA last nt f m (i + 1) := if_pos q
      by_cases c : j = i
      · rw [c]; exact q
      · exact okA_t m (i + 1) (e ▸ h) j (by omega) (by omega)
    · have e : okA last nt f (m + 1) i = false := if_neg q
      rw [e] at h; cases h
theorem b01_ff {p : Bool} (h : p = false) : b01 (p = true) = am_i 0 := b01_f (by rw [h]; decide)
theorem b01_tt {p : Bool} (h : p = true) : b01 (p = true) = am_i 1 := b01_t h
section ON
variable {d : Nat} {J : tJ} {R : tR} {c last nb : Nat} {nt : Nat → Nat} {T : Nat → Nat}
theorem x_len {I : tI} (hx : st_Rx R) (hc : c = 10 ∨ c = 20) (h6 : nb ≤ 6) (hnt : ∀ b, b < nb → nt b ≤ 6 ∧ I (c + 4) b = am_i (nt b)) (hI1 : I c 1 = am_i nb) : ∀ (m i : Nat), i + m = nb → am_E (d + 1) 59 4 [(0, .ref c), (1, .int (am_i (ofS nt i + 1 : Nat))), (2, .int (am_i i))] [] (I, J, R, 138) = some (some (.int (am_i (ofS nt nb + 1 : Nat))), (I, J, R, 138))
  | 0, i, hi => by
    have : i = nb := by omega
    subst this
    rw [sg_X7_lengthFor_4]
    simp (disch := first | assumption | omega) only [rX hx, ly_csx, ly_cax, ly_cf, ly_kd, ly_ln, ↓Bool.cond_decide, cond_true, cond_false, ↓bI_p, ↓bV_p, ↓bL_p, bIJ_s, bVJ_s, bLJ_s, ↓am_let_s, Nat.blt, Nat.ble, Bool.and_true, Bool.true_and, Bool.and_self, Int.cast_ofNat_Int, am_i_add, am_i_sub, am_i_mul, am_ok_i, am_i_cl, n_lt, n_le, n_eq, n_lt0, n_le0, n_0lt, n_0le, n_eq0, ne_eq, ↓reduceIte, not_true_eq_false, not_false_eq_true, and_true, true_and, and_false, false_and, eq_T, eq_F, lt_T, lt_F, le_T, le_F, qn_T, qn_F, and_F, b01_T, b01_F, e_isIn, Int32.toInt_toInt64, am_i_toInt, am_l_toInt, Int.toNat_natCast, Int.reduceToNat, Int.reduceAdd, Int.reduceSub, Int.reduceMul, Int.reduceNeg, Nat.reduceAdd, Nat.reduceMul, Nat.add_zero, Nat.mul_zero, Nat.zero_add, am_zb0, am_zb1, rC hx hc, hI1]
  | m + 1, i, hi => by
    obtain ⟨n6, n4⟩ := hnt i (by omega)
    have ih := x_len hx hc h6 hnt hI1 m (i + 1) (by omega)
    have es : ((ofS nt i + 1 : Nat) : Int) + ((5 : Int) + (nt i : Int)) = ((ofS nt (i + 1) + 1 : Nat) : Int) := by
      have oe : ofS nt (i + 1) = ofS nt i + (5 + nt i) := rfl
      omega
    rw [← ih, sg_X7_lengthFor_4]
    simp (disch := first | assumption | omega) only [rX hx, ly_csx, ly_cax, ly_cf, ly_kd, ly_ln, ↓Bool.cond_decide, cond_true, cond_false, ↓bI_p, ↓bV_p, ↓bL_p, bIJ_s, bVJ_s, bLJ_s, ↓am_let_s, Nat.blt, Nat.ble, Bool.and_true, Bool.true_and, Bool.and_self, Int.cast_ofNat_Int, am_i_add, am_i_sub, am_i_mul, am_ok_i, am_i_cl, n_lt, n_le, n_eq, n_lt0, n_le0, n_0lt, n_0le, n_eq0, ne_eq, ↓reduceIte, not_true_eq_false, not_false_eq_true, and_true, true_and, and_false, false_and, eq_T, eq_F, lt_T, lt_F, le_T, le_F, qn_T, qn_F, and_F, b01_T, b01_F, e_isIn, Int32.toInt_toInt64, am_i_toInt, am_l_toInt, Int.toNat_natCast, Int.reduceToNat, Int.reduceAdd, Int.reduceSub, Int.reduceMul, Int.reduceNeg, Nat.reduceAdd, Nat.reduceMul, Nat.add_zero, Nat.mul_zero, Nat.zero_add, am_zb0, am_zb1, rC hx hc, hI1, n4, es, am_i_s]
theorem x_bn {I : tI} {o n : Nat} (hx : st_Rx R) (hn : n ≤ 6) (ho : o ≤ 100) (hT : ∀ j, j < o + 5 + n → T j < 256 ∧ I 4 j = am_i (T j)) : ∀ (m k : Nat), k + m = n → am_E (d + 1) 61 104 [(0, .ref 4), (1, .int (am_i o)), (3, .int (am_i n)), (6, .int (am_i k))] [] (I, J, R, 138) = some (some (.int (b01 (okN T o m k = true))), (I, J, R, 138))
  | 0, k, hk => by
    rw [sg_X7_isBoatRow_104, b01_tt (show okN T o 0 k = true from rfl)]
    simp (disch := first | assumption | omega) only [rX hx, ly_csx, ly_cax, ly_cf, ly_kd, ly_ln, ↓Bool.cond_decide, cond_true, cond_false, ↓bI_p, ↓bV_p, ↓bL_p, bIJ_s, bVJ_s, bLJ_s, ↓am_let_s, Nat.blt, Nat.ble, Bool.and_true, Bool.true_and, Bool.and_self, Int.cast_ofNat_Int, am_i_add, am_i_sub, am_i_mul, am_ok_i, am_i_cl, n_lt, n_le, n_eq, n_lt0, n_le0, n_0lt, n_0le, n_eq0, ne_eq, ↓reduceIte, not_true_eq_false, not_false_eq_true, and_true, true_and, and_false, false_and, eq_T, eq_F, lt_T, lt_F, le_T, le_F, qn_T, qn_F, and_F, b01_T, b01_F, e_isIn, Int32.toInt_toInt64, am_i_toInt, am_l_toInt, Int.toNat_natCast, Int.reduceToNat, Int.reduceAdd, Int.reduceSub, Int.reduceMul, Int.reduceNeg, Nat.reduceAdd, Nat.reduceMul, Nat.add_zero, Nat.mul_zero, Nat.zero_add, am_zb0, am_zb1]
  | m + 1, k, hk => by
    obtain ⟨t1, t2⟩ := hT (o + 5 + k) (by omega)
    have en : ((o : Int) + 5 + (k : Int)).toNat = o + 5 + k := by omega
    rw [sg_X7_isBoatRow_104]
    by_cases q : T (o + 5 + k) < 8
    · have ih := x_bn hx hn ho hT m (k + 1) (by omega)
      rw [show okN T o (m + 1) k = okN T o m (k + 1) from if_pos q]
      simp (disch := first | assumption | omega) only [rX hx, ly_csx, ly_cax, ly_cf, ly_kd, ly_ln, ↓Bool.cond_decide, cond_true, cond_false, ↓bI_p, ↓bV_p, ↓bL_p, bIJ_s, bVJ_s, bLJ_s, ↓am_let_s, Nat.blt, Nat.ble, Bool.and_true, Bool.true_and, Bool.and_self, Int.cast_ofNat_Int, am_i_add, am_i_sub, am_i_mul, am_ok_i, am_i_cl, n_lt, n_le, n_eq, n_lt0, n_le0, n_0lt, n_0le, n_eq0, ne_eq, ↓reduceIte, not_true_eq_false, not_false_eq_true, and_true, true_and, and_false, false_and, eq_T, eq_F, lt_T, lt_F, le_T, le_F, qn_T, qn_F, and_F, b01_T, b01_F, e_isIn, Int32.toInt_toInt64, am_i_toInt, am_l_toInt, Int.toNat_natCast, Int.reduceToNat, Int.reduceAdd, Int.reduceSub, Int.reduceMul, Int.reduceNeg, Nat.reduceAdd, Nat.reduceMul, Nat.add_zero, Nat.mul_zero, Nat.zero_add, am_zb0, am_zb1, en, t2, am_i_s, ih]
    · rw [b01_ff (show okN T o (m + 1) k = false from if_neg q)]
      simp (disch := first | assumption | omega) only [rX hx, ly_csx, ly_cax, ly_cf, ly_kd, ly_ln, ↓Bool.cond_decide, cond_true, cond_false, ↓bI_p, ↓bV_p, ↓bL_p, bIJ_s, bVJ_s, bLJ_s, ↓am_let_s, Nat.blt, Nat.ble, Bool.and_true, Bool.true_and, Bool.and_self, Int.cast_ofNat_Int, am_i_add, am_i_sub, am_i_mul, am_ok_i, am_i_cl, n_lt, n_le, n_eq, n_lt0, n_le0, n_0lt, n_0le, n_eq0, ne_eq, ↓reduceIte, not_true_eq_false, not_false_eq_true, and_true, true_and, and_false, false_and, eq_T, eq_F, lt_T, lt_F, le_T, le_F, qn_T, qn_F, and_F, b01_T, b01_F, e_isIn, Int32.toInt_toInt64, am_i_toInt, am_l_toInt, Int.toNat_natCast, Int.reduceToNat, Int.reduceAdd, Int.reduceSub, Int.reduceMul, Int.reduceNeg, Nat.reduceAdd, Nat.reduceMul, Nat.add_zero, Nat.mul_zero, Nat.zero_add, am_zb0, am_zb1, en, t2]
theorem x_boatRow {I : tI} {o n : Nat} (hx : st_Rx R) (hc : c = 10 ∨ c = 20) (hl : last ≤ 60) (hn : n ≤ 6) (ho : o ≤ 100) (hI0 : I c 0 = am_i last) (hT : ∀ j, j < o + 5 + n → T j < 256 ∧ I 4 j = am_i (T j)) : am_E (d + 1) 61 0 [(0, .ref 4), (1, .int (am_i o)), (2, .ref c), (3, .int (am_i n))] [] (I, J, R, 138) = some (some (.int (b01 (okB last n T o = true))), (I, J, R, 138)) := by
  obtain ⟨t0, u0⟩ := hT o (by omega)
  obtain ⟨t1, u1⟩ := hT (o + 1) (by omega)
  obtain ⟨t2, u2⟩ := hT (o + 2) (by omega)
  obtain ⟨t3, u3⟩ := hT (o + 3) (by omega)
  obtain ⟨t4, u4⟩ := hT (o + 4) (by omega)
  have n0 : ((o : Int) + 0).toNat = o := by omega
  have n1 : ((o : Int) + 1).toNat = o + 1 := by omega
  have n2 : ((o : Int) + 2).toNat = o + 2 := by omega
  have n3 : ((o : Int) + 3).toNat = o + 3 := by omega
  have n4 : ((o : Int) + 4).toNat = o + 4 := by omega
  have bn : ∀ d, am_E (d + 1) 61 104 [(0, .ref 4), (1, .int (am_i o)), (3, .int (am_i n)), (6, .int (am_i 0))] [] (I, J, R, 138) = _ := fun d => x_bn (d := d) (J := J) hx hn ho hT n 0 (by omega)
  have f84 : ¬ (T (o + 3) = 1 ∧ T o = last) → T o ≤ last → T (o + 1) ≤ 99 → T (o + 2) ≤ 99 → T (o + 3) ≤ 1 → am_E (d + 1) 61 84 [(0, .ref 4), (1, .int (am_i o)), (3, .int (am_i n))] [] (I, J, R, 138) = some (some (.int (b01 (okB last n T o = true))), (I, J, R, 138)) := by
    intro z1 z2 z3 z4 z5
    rw [sg_X7_isBoatRow_84]
    by_cases qn : n ≤ 1
    · by_cases q4 : T (o + 4) ≤ n - 1
      · rw [show okB last n T o = okN T o n 0 from if_pos ⟨z2, z3, z4, z5, z1, q4⟩]
        simp (disch := first | assumption | omega) only [rX hx, ly_csx, ly_cax, ly_cf, ly_kd, ly_ln, ↓Bool.cond_decide, cond_true, cond_false, ↓bI_p, ↓bV_p, ↓bL_p, bIJ_s, bVJ_s, bLJ_s, ↓am_let_s, Nat.blt, Nat.ble, Bool.and_true, Bool.true_and, Bool.and_self, Int.cast_ofNat_Int, am_i_add, am_i_sub, am_i_mul, am_ok_i, am_i_cl, n_lt, n_le, n_eq, n_lt0, n_le0, n_0lt, n_0le, n_eq0, ne_eq, ↓reduceIte, not_true_eq_false, not_false_eq_true, and_true, true_and, and_false, false_and, eq_T, eq_F, lt_T, lt_F, le_T, le_F, qn_T, qn_F, and_F, b01_T, b01_F, e_isIn, Int32.toInt_toInt64, am_i_toInt, am_l_toInt, Int.toNat_natCast, Int.reduceToNat, Int.reduceAdd, Int.reduceSub, Int.reduceMul, Int.reduceNeg, Nat.reduceAdd, Nat.reduceMul, Nat.add_zero, Nat.mul_zero, Nat.zero_add, am_zb0, am_zb1, n4, u4, bn]
      · rw [b01_ff (show okB last n T o = false from if_neg (fun e => q4 e.2.2.2.2.2))]
        simp (disch := first | assumption | omega) only [rX hx, ly_csx, ly_cax, ly_cf, ly_kd, ly_ln, ↓Bool.cond_decide, cond_true, cond_false, ↓bI_p, ↓bV_p, ↓bL_p, bIJ_s, bVJ_s, bLJ_s, ↓am_let_s, Nat.blt, Nat.ble, Bool.and_true, Bool.true_and, Bool.and_self, Int.cast_ofNat_Int, am_i_add, am_i_sub, am_i_mul, am_ok_i, am_i_cl, n_lt, n_le, n_eq, n_lt0, n_le0, n_0lt, n_0le, n_eq0, ne_eq, ↓reduceIte, not_true_eq_false, not_false_eq_true, and_true, true_and, and_false, false_and, eq_T, eq_F, lt_T, lt_F, le_T, le_F, qn_T, qn_F, and_F, b01_T, b01_F, e_isIn, Int32.toInt_toInt64, am_i_toInt, am_l_toInt, Int.toNat_natCast, Int.reduceToNat, Int.reduceAdd, Int.reduceSub, Int.reduceMul, Int.reduceNeg, Nat.reduceAdd, Nat.reduceMul, Nat.add_zero, Nat.mul_zero, Nat.zero_add, am_zb0, am_zb1, n4, u4]
    · by_cases q4 : T (o + 4) ≤ n - 1
      · rw [show okB last n T o = okN T o n 0 from if_pos ⟨z2, z3, z4, z5, z1, q4⟩]
        simp (disch := first | assumption | omega) only [rX hx, ly_csx, ly_cax, ly_cf, ly_kd, ly_ln, ↓Bool.cond_decide, cond_true, cond_false, ↓bI_p, ↓bV_p, ↓bL_p, bIJ_s, bVJ_s, bLJ_s, ↓am_let_s, Nat.blt, Nat.ble, Bool.and_true, Bool.true_and, Bool.and_self, Int.cast_ofNat_Int, am_i_add, am_i_sub, am_i_mul, am_ok_i, am_i_cl, n_lt, n_le, n_eq, n_lt0, n_le0, n_0lt, n_0le, n_eq0, ne_eq, ↓reduceIte, not_true_eq_false, not_false_eq_true, and_true, true_and, and_false, false_and, eq_T, eq_F, lt_T, lt_F, le_T, le_F, qn_T, qn_F, and_F, b01_T, b01_F, e_isIn, Int32.toInt_toInt64, am_i_toInt, am_l_toInt, Int.toNat_natCast, Int.reduceToNat, Int.reduceAdd, Int.reduceSub, Int.reduceMul, Int.reduceNeg, Nat.reduceAdd, Nat.reduceMul, Nat.add_zero, Nat.mul_zero, Nat.zero_add, am_zb0, am_zb1, n4, u4, bn]
      · rw [b01_ff (show okB last n T o = false from if_neg (fun e => q4 e.2.2.2.2.2))]
        simp (disch := first | assumption | omega) only [rX hx, ly_csx, ly_cax, ly_cf, ly_kd, ly_ln, ↓Bool.cond_decide, cond_true, cond_false, ↓bI_p, ↓bV_p, ↓bL_p, bIJ_s, bVJ_s, bLJ_s, ↓am_let_s, Nat.blt, Nat.ble, Bool.and_true, Bool.true_and, Bool.and_self, Int.cast_ofNat_Int, am_i_add, am_i_sub, am_i_mul, am_ok_i, am_i_cl, n_lt, n_le, n_eq, n_lt0, n_le0, n_0lt, n_0le, n_eq0, ne_eq, ↓reduceIte, not_true_eq_false, not_false_eq_true, and_true, true_and, and_false, false_and, eq_T, eq_F, lt_T, lt_F, le_T, le_F, qn_T, qn_F, and_F, b01_T, b01_F, e_isIn, Int32.toInt_toInt64, am_i_toInt, am_l_toInt, Int.toNat_natCast, Int.reduceToNat, Int.reduceAdd, Int.reduceSub, Int.reduceMul, Int.reduceNeg, Nat.reduceAdd, Nat.reduceMul, Nat.add_zero, Nat.mul_zero, Nat.zero_add, am_zb0, am_zb1, n4, u4]
  rw [sg_X7_isBoatRow_0]
  by_cases q0 : last < T o
  · rw [b01_ff (show okB last n T o = false from if_neg (fun e => by have := e.1; omega))]
    simp (disch := first | assumption | omega) only [rX hx, ly_csx, ly_cax, ly_cf, ly_kd, ly_ln, ↓Bool.cond_decide, cond_true, cond_false, ↓bI_p, ↓bV_p, ↓bL_p, bIJ_s, bVJ_s, bLJ_s, ↓am_let_s, Nat.blt, Nat.ble, Bool.and_true, Bool.true_and, Bool.and_self, Int.cast_ofNat_Int, am_i_add, am_i_sub, am_i_mul, am_ok_i, am_i_cl, n_lt, n_le, n_eq, n_lt0, n_le0, n_0lt, n_0le, n_eq0, ne_eq, ↓reduceIte, not_true_eq_false, not_false_eq_true, and_true, true_and, and_false, false_and, eq_T, eq_F, lt_T, lt_F, le_T, le_F, qn_T, qn_F, and_F, b01_T, b01_F, e_isIn, Int32.toInt_toInt64, am_i_toInt, am_l_toInt, Int.toNat_natCast, Int.reduceToNat, Int.reduceAdd, Int.reduceSub, Int.reduceMul, Int.reduceNeg, Nat.reduceAdd, Nat.reduceMul, Nat.add_zero, Nat.mul_zero, Nat.zero_add, am_zb0, am_zb1, rC hx hc, n0, n1, n2, n3, u0, u3, hI0, sg_X7_isBoatRow_59]
  · by_cases q1 : 99 < T (o + 1)
    · rw [b01_ff (show okB last n T o = false from if_neg (fun e => by have := e.2.1; omega))]
      simp (disch := first | assumption | omega) only [rX hx, ly_csx, ly_cax, ly_cf, ly_kd, ly_ln, ↓Bool.cond_decide, cond_true, cond_false, ↓bI_p, ↓bV_p, ↓bL_p, bIJ_s, bVJ_s, bLJ_s, ↓am_let_s, Nat.blt, Nat.ble, Bool.and_true, Bool.true_and, Bool.and_self, Int.cast_ofNat_Int, am_i_add, am_i_sub, am_i_mul, am_ok_i, am_i_cl, n_lt, n_le, n_eq, n_lt0, n_le0, n_0lt, n_0le, n_eq0, ne_eq, ↓reduceIte, not_true_eq_false, not_false_eq_true, and_true, true_and, and_false, false_and, eq_T, eq_F, lt_T, lt_F, le_T, le_F, qn_T, qn_F, and_F, b01_T, b01_F, e_isIn, Int32.toInt_toInt64, am_i_toInt, am_l_toInt, Int.toNat_natCast, Int.reduceToNat, Int.reduceAdd, Int.reduceSub, Int.reduceMul, Int.reduceNeg, Nat.reduceAdd, Nat.reduceMul, Nat.add_zero, Nat.mul_zero, Nat.zero_add, am_zb0, am_zb1, rC hx hc, n0, n1, n2, n3, u0, u1, u3, hI0, sg_X7_isBoatRow_59]
    · by_cases q2 : 99 < T (o + 2)
      · rw [b01_ff (show okB last n T o = false from if_neg (fun e => by have := e.2.2.1; omega))]
        simp (disch := first | assumption | omega) only [rX hx, ly_csx, ly_cax, ly_cf, ly_kd, ly_ln, ↓Bool.cond_decide, cond_true, cond_false, ↓bI_p, ↓bV_p, ↓bL_p, bIJ_s, bVJ_s, bLJ_s, ↓am_let_s, Nat.blt, Nat.ble, Bool.and_true, Bool.true_and, Bool.and_self, Int.cast_ofNat_Int, am_i_add, am_i_sub, am_i_mul, am_ok_i, am_i_cl, n_lt, n_le, n_eq, n_lt0, n_le0, n_0lt, n_0le, n_eq0, ne_eq, ↓reduceIte, not_true_eq_false, not_false_eq_true, and_true, true_and, and_false, false_and, eq_T, eq_F, lt_T, lt_F, le_T, le_F, qn_T, qn_F, and_F, b01_T, b01_F, e_isIn, Int32.toInt_toInt64, am_i_toInt, am_l_toInt, Int.toNat_natCast, Int.reduceToNat, Int.reduceAdd, Int.reduceSub, Int.reduceMul, Int.reduceNeg, Nat.reduceAdd, Nat.reduceMul, Nat.add_zero, Nat.mul_zero, Nat.zero_add, am_zb0, am_zb1, rC hx hc, n0, n1, n2, n3, u0, u1, u2, u3, hI0, sg_X7_isBoatRow_59]
      · by_cases q3 : 1 < T (o + 3)
        · rw [b01_ff (show okB last n T o = false from if_neg (fun e => by have := e.2.2.2.1; omega))]
          simp (disch := first | assumption | omega) only [rX hx, ly_csx, ly_cax, ly_cf, ly_kd, ly_ln, ↓Bool.cond_decide, cond_true, cond_false, ↓bI_p, ↓bV_p, ↓bL_p, bIJ_s, bVJ_s, bLJ_s, ↓am_let_s, Nat.blt, Nat.ble, Bool.and_true, Bool.true_and, Bool.and_self, Int.cast_ofNat_Int, am_i_add, am_i_sub, am_i_mul, am_ok_i, am_i_cl, n_lt, n_le, n_eq, n_lt0, n_le0, n_0lt, n_0le, n_eq0, ne_eq, ↓reduceIte, not_true_eq_false, not_false_eq_true, and_true, true_and, and_false, false_and, eq_T, eq_F, lt_T, lt_F, le_T, le_F, qn_T, qn_F, and_F, b01_T, b01_F, e_isIn, Int32.toInt_toInt64, am_i_toInt, am_l_toInt, Int.toNat_natCast, Int.reduceToNat, Int.reduceAdd, Int.reduceSub, Int.reduceMul, Int.reduceNeg, Nat.reduceAdd, Nat.reduceMul, Nat.add_zero, Nat.mul_zero, Nat.zero_add, am_zb0, am_zb1, rC hx hc, n0, n1, n2, n3, u0, u1, u2, u3, hI0, sg_X7_isBoatRow_82]
        · by_cases q31 : T (o + 3) = 1
          · by_cases q5 : T o = last
            · rw [b01_ff (show okB last n T o = false from if_neg (fun e => e.2.2.2.2.1 ⟨q31, q5⟩))]
              simp (disch := first | assumption | omega) only [rX hx, ly_csx, ly_cax, ly_cf, ly_kd, ly_ln, ↓Bool.cond_decide, cond_true, cond_false, ↓bI_p, ↓bV_p, ↓bL_p, bIJ_s, bVJ_s, bLJ_s, ↓am_let_s, Nat.blt, Nat.ble, Bool.and_true, Bool.true_and, Bool.and_self, Int.cast_ofNat_Int, am_i_add, am_i_sub, am_i_mul, am_ok_i, am_i_cl, n_lt, n_le, n_eq, n_lt0, n_le0, n_0lt, n_0le, n_eq0, ne_eq, ↓reduceIte, not_true_eq_false, not_false_eq_true, and_true, true_and, and_false, false_and, eq_T, eq_F, lt_T, lt_F, le_T, le_F, qn_T, qn_F, and_F, b01_T, b01_F, e_isIn, Int32.toInt_toInt64, am_i_toInt, am_l_toInt, Int.toNat_natCast, Int.reduceToNat, Int.reduceAdd, Int.reduceSub, Int.reduceMul, Int.reduceNeg, Nat.reduceAdd, Nat.reduceMul, Nat.add_zero, Nat.mul_zero, Nat.zero_add, am_zb0, am_zb1, rC hx hc, n0, n1, n2, n3, u0, u1, u2, u3, hI0, sg_X7_isBoatRow_82]
            · have f := f84 (fun e => q5 e.2) (by omega) (by omega) (by omega) (by omega)
              simp (disch := first | assumption | omega) only [rX hx, ly_csx, ly_cax, ly_cf, ly_kd, ly_ln, ↓Bool.cond_decide, cond_true, cond_false, ↓bI_p, ↓bV_p, ↓bL_p, bIJ_s, bVJ_s, bLJ_s, ↓am_let_s, Nat.blt, Nat.ble, Bool.and_true, Bool.true_and, Bool.and_self, Int.cast_ofNat_Int, am_i_add, am_i_sub, am_i_mul, am_ok_i, am_i_cl, n_lt, n_le, n_eq, n_lt0, n_le0, n_0lt, n_0le, n_eq0, ne_eq, ↓reduceIte, not_true_eq_false, not_false_eq_true, and_true, true_and, and_false, false_and, eq_T, eq_F, lt_T, lt_F, le_T, le_F, qn_T, qn_F, and_F, b01_T, b01_F, e_isIn, Int32.toInt_toInt64, am_i_toInt, am_l_toInt, Int.toNat_natCast, Int.reduceToNat, Int.reduceAdd, Int.reduceSub, Int.reduceMul, Int.reduceNeg, Nat.reduceAdd, Nat.reduceMul, Nat.add_zero, Nat.mul_zero, Nat.zero_add, am_zb0, am_zb1, rC hx hc, n0, n1, n2, n3, u0, u1, u2, u3, hI0, f]
          · have f := f84 (fun e => q31 e.1) (by omega) (by omega) (by omega) (by omega)
            simp (disch := first | assumption | omega) only [rX hx, ly_csx, ly_cax, ly_cf, ly_kd, ly_ln, ↓Bool.cond_decide, cond_true, cond_false, ↓bI_p, ↓bV_p, ↓bL_p, bIJ_s, bVJ_s, bLJ_s, ↓am_let_s, Nat.blt, Nat.ble, Bool.and_true, Bool.true_and, Bool.and_self, Int.cast_ofNat_Int, am_i_add, am_i_sub, am_i_mul, am_ok_i, am_i_cl, n_lt, n_le, n_eq, n_lt0, n_le0, n_0lt, n_0le, n_eq0, ne_eq, ↓reduceIte, not_true_eq_false, not_false_eq_true, and_true, true_and, and_false, false_and, eq_T, eq_F, lt_T, lt_F, le_T, le_F, qn_T, qn_F, and_F, b01_T, b01_F, e_isIn, Int32.toInt_toInt64, am_i_toInt, am_l_toInt, Int.toNat_natCast, Int.reduceToNat, Int.reduceAdd, Int.reduceSub, Int.reduceMul, Int.reduceNeg, Nat.reduceAdd, Nat.reduceMul, Nat.add_zero, Nat.mul_zero, Nat.zero_add, am_zb0, am_zb1, rC hx hc, n0, n1, n2, n3, u0, u1, u2, u3, hI0, f]
theorem x_o58 {I : tI} (hx : st_Rx R) (hc : c = 10 ∨ c = 20) (hl : last ≤ 60) (h6 : nb ≤ 6) (hnt : ∀ b, b < nb → nt b ≤ 6 ∧ I (c + 4) b = am_i (nt b)) (hI0 : I c 0 = am_i last) (hI1 : I c 1 = am_i nb) (hT : ∀ j, j < ofS nt nb → T j < 256 ∧ I 4 j = am_i (T j)) : ∀ (m i : Nat), i + m = nb → am_E (d + 2) 60 58 [(0, .ref 4), (2, .ref c), (4, .int (am_i (ofS nt i))), (5, .int (am_i i))] [] (I, J, R, 138) = some (some (.int (b01 (okA last nt T m i = true))), (I, J, R, 138))
  | 0, i, hi => by
    rw [sg_X7_isOf_58, b01_tt (show okA last nt T 0 i = true from rfl)]
    simp (disch := first | assumption | omega) only [rX hx, ly_csx, ly_cax, ly_cf, ly_kd, ly_ln, ↓Bool.cond_decide, cond_true, cond_false, ↓bI_p, ↓bV_p, ↓bL_p, bIJ_s, bVJ_s, bLJ_s, ↓am_let_s, Nat.blt, Nat.ble, Bool.and_true, Bool.true_and, Bool.and_self, Int.cast_ofNat_Int, am_i_add, am_i_sub, am_i_mul, am_ok_i, am_i_cl, n_lt, n_le, n_eq, n_lt0, n_le0, n_0lt, n_0le, n_eq0, ne_eq, ↓reduceIte, not_true_eq_false, not_false_eq_true, and_true, true_and, and_false, false_and, eq_T, eq_F, lt_T, lt_F, le_T, le_F, qn_T, qn_F, and_F, b01_T, b01_F, e_isIn, Int32.toInt_toInt64, am_i_toInt, am_l_toInt, Int.toNat_natCast, Int.reduceToNat, Int.reduceAdd, Int.reduceSub, Int.reduceMul, Int.reduceNeg, Nat.reduceAdd, Nat.reduceMul, Nat.add_zero, Nat.mul_zero, Nat.zero_add, am_zb0, am_zb1, rC hx hc, hI1]
  | m + 1, i, hi => by
    obtain ⟨n6, n4⟩ := hnt i (by omega)
    have ob := ofS_b (fun b hb => (hnt b hb).1) i (by omega)
    have om := ofS_m (nt := nt) (b := i) nb (by omega)
    have oe : ofS nt (i + 1) = ofS nt i + (5 + nt i) := rfl
    have br := fun d => x_boatRow (d := d) (J := J) (R := R) (I := I) (c := c) (last := last) (T := T) (o := ofS nt i) (n := nt i) hx hc hl n6 (by omega) hI0 (fun j hj => hT j (by omega))
    have es : (ofS nt i : Int) + ((5 : Int) + (nt i : Int)) = ((ofS nt (i + 1) : Nat) : Int) := by omega
    rw [sg_X7_isOf_58]
    by_cases q : okB last (nt i) T (ofS nt i) = true
    · have ih := x_o58 hx hc hl h6 hnt hI0 hI1 hT m (i + 1) (by omega)
      rw [show okA last nt T (m + 1) i = okA last nt T m (i + 1) from if_pos q]
      simp (disch := first | assumption | omega) only [rX hx, ly_csx, ly_cax, ly_cf, ly_kd, ly_ln, ↓Bool.cond_decide, cond_true, cond_false, ↓bI_p, ↓bV_p, ↓bL_p, bIJ_s, bVJ_s, bLJ_s, ↓am_let_s, Nat.blt, Nat.ble, Bool.and_true, Bool.true_and, Bool.and_self, Int.cast_ofNat_Int, am_i_add, am_i_sub, am_i_mul, am_ok_i, am_i_cl, n_lt, n_le, n_eq, n_lt0, n_le0, n_0lt, n_0le, n_eq0, ne_eq, ↓reduceIte, not_true_eq_false, not_false_eq_true, and_true, true_and, and_false, false_and, eq_T, eq_F, lt_T, lt_F, le_T, le_F, qn_T, qn_F, and_F, b01_T, b01_F, e_isIn, Int32.toInt_toInt64, am_i_toInt, am_l_toInt, Int.toNat_natCast, Int.reduceToNat, Int.reduceAdd, Int.reduceSub, Int.reduceMul, Int.reduceNeg, Nat.reduceAdd, Nat.reduceMul, Nat.add_zero, Nat.mul_zero, Nat.zero_add, am_zb0, am_zb1, rC hx hc, hI1, n4, br, b01_t q, es, am_i_s, ih]
    · rw [b01_ff (show okA last nt T (m + 1) i = false from if_neg q)]
      simp (disch := first | assumption | omega) only [rX hx, ly_csx, ly_cax, ly_cf, ly_kd, ly_ln, ↓Bool.cond_decide, cond_true, cond_false, ↓bI_p, ↓bV_p, ↓bL_p, bIJ_s, bVJ_s, bLJ_s, ↓am_let_s, Nat.blt, Nat.ble, Bool.and_true, Bool.true_and, Bool.and_self, Int.cast_ofNat_Int, am_i_add, am_i_sub, am_i_mul, am_ok_i, am_i_cl, n_lt, n_le, n_eq, n_lt0, n_le0, n_0lt, n_0le, n_eq0, ne_eq, ↓reduceIte, not_true_eq_false, not_false_eq_true, and_true, true_and, and_false, false_and, eq_T, eq_F, lt_T, lt_F, le_T, le_F, qn_T, qn_F, and_F, b01_T, b01_F, e_isIn, Int32.toInt_toInt64, am_i_toInt, am_l_toInt, Int.toNat_natCast, Int.reduceToNat, Int.reduceAdd, Int.reduceSub, Int.reduceMul, Int.reduceNeg, Nat.reduceAdd, Nat.reduceMul, Nat.add_zero, Nat.mul_zero, Nat.zero_add, am_zb0, am_zb1, rC hx hc, hI1, n4, br, b01_f q]
theorem x_isOf {I : tI} {n : Nat} (hx : st_Rx R) (hc : c = 10 ∨ c = 20) (hl : last ≤ 60) (h6 : nb ≤ 6) (hn : n ≤ 1600) (hnt : ∀ b, b < nb → nt b ≤ 6 ∧ I (c + 4) b = am_i (nt b)) (hI0 : I c 0 = am_i last) (hI1 : I c 1 = am_i nb) (hT : ∀ j, j < n → T j < 256 ∧ I 4 j = am_i (T j)) : am_E (d + 3) 60 0 [(0, .ref 4), (1, .int (am_i n)), (2, .ref c)] [] (I, J, R, 138) = some (some (.int (b01 (okI last nb nt T n = true))), (I, J, R, 138)) := by
  have ob := ofS_b (fun b hb => (hnt b hb).1) nb (Nat.le_refl _)
  have o2 := ofS_2 (nt := nt) nb
  have ln : ∀ d, am_E (d + 1) 59 4 [(0, .ref c), (1, .int (am_i 3)), (2, .int (am_i 0))] [] (I, J, R, 138) = _ := fun d => x_len (d := d) (J := J) (nt := nt) hx hc h6 hnt hI1 nb 0 (by omega)
  rw [sg_X7_isOf_0]
  by_cases q : n = ofS nt nb + 1
  · have ck : ∀ d, am_E (d + 1) 58 6 [(0, .ref 4), (1, .int (am_i (ofS nt nb))), (2, .int (am_i 193)), (3, .int (am_i 0))] [] (I, J, R, 138) = some (some (.int (am_i (ckS T (ofS nt nb) 0 193))), (I, J, R, 138)) := fun d => x_check (d := d) (J := J) (R := R) (I := I) (a := 4) (ln := 1600) (n := ofS nt nb) (G := T) (by decide) (by simp only [ly_kd]; decide) (by simp only [ly_kd]; decide) (by simp only [ly_ln]) (fun i => by simp only [ly_csx]) (by omega) (by omega) (fun j hj => ⟨by have := (hT j (by omega)).1; omega, (hT j (by omega)).2⟩) (ofS nt nb) 0 193 (by omega) (by omega)
    have cb := ckS_b (G := T) (ofS nt nb) 0 193 (by omega)
    obtain ⟨t0, u0⟩ := hT 0 (by omega)
    obtain ⟨t1, u1⟩ := hT 1 (by omega)
    obtain ⟨tn, un⟩ := hT (ofS nt nb) (by omega)
    have e1 : ((ofS nt nb + 1 : Nat) : Int) - 1 = ((ofS nt nb : Nat) : Int) := by omega
    have e2 : (T 0 : Int) * 256 + (T 1 : Int) = ((T 0 * 256 + T 1 : Nat) : Int) := by omega
    by_cases q1 : T (ofS nt nb) = ckS T (ofS nt nb) 0 193
    · by_cases q2 : T 0 * 256 + T 1 ≤ 999
      · have o58 : ∀ d, am_E (d + 2) 60 58 [(0, .ref 4), (2, .ref c), (4, .int (am_i 2)), (5, .int (am_i 0))] [] (I, J, R, 138) = _ := fun d => x_o58 (d := d) (J := J) (nt := nt) (T := T) hx hc hl h6 hnt hI0 hI1 (fun j hj => hT j (by omega)) nb 0 (by omega)
        rw [show okI last nb nt T n = okA last nt T nb 0 from if_pos ⟨q, q1, q2⟩, q]
        simp (disch := first | assumption | omega) only [sg_X7_lengthFor_0, ln, rX hx, ly_csx, ly_cax, ly_cf, ly_kd, ly_ln, ↓Bool.cond_decide, cond_true, cond_false, ↓bI_p, ↓bV_p, ↓bL_p, bIJ_s, bVJ_s, bLJ_s, ↓am_let_s, Nat.blt, Nat.ble, Bool.and_true, Bool.true_and, Bool.and_self, Int.cast_ofNat_Int, am_i_add, am_i_sub, am_i_mul, am_ok_i, am_i_cl, n_lt, n_le, n_eq, n_lt0, n_le0, n_0lt, n_0le, n_eq0, ne_eq, ↓reduceIte, not_true_eq_false, not_false_eq_true, and_true, true_and, and_false, false_and, eq_T, eq_F, lt_T, lt_F, le_T, le_F, qn_T, qn_F, and_F, b01_T, b01_F, e_isIn, Int32.toInt_toInt64, am_i_toInt, am_l_toInt, Int.toNat_natCast, Int.reduceToNat, Int.reduceAdd, Int.reduceSub, Int.reduceMul, Int.reduceNeg, Nat.reduceAdd, Nat.reduceMul, Nat.add_zero, Nat.mul_zero, Nat.zero_add, am_zb0, am_zb1, e1, sg_X7_check_0, ck, un, u0, u1, e2, o58]
      · rw [b01_ff (show okI last nb nt T n = false from if_neg (fun e => q2 e.2.2)), q]
        simp (disch := first | assumption | omega) only [sg_X7_lengthFor_0, ln, rX hx, ly_csx, ly_cax, ly_cf, ly_kd, ly_ln, ↓Bool.cond_decide, cond_true, cond_false, ↓bI_p, ↓bV_p, ↓bL_p, bIJ_s, bVJ_s, bLJ_s, ↓am_let_s, Nat.blt, Nat.ble, Bool.and_true, Bool.true_and, Bool.and_self, Int.cast_ofNat_Int, am_i_add, am_i_sub, am_i_mul, am_ok_i, am_i_cl, n_lt, n_le, n_eq, n_lt0, n_le0, n_0lt, n_0le, n_eq0, ne_eq, ↓reduceIte, not_true_eq_false, not_false_eq_true, and_true, true_and, and_false, false_and, eq_T, eq_F, lt_T, lt_F, le_T, le_F, qn_T, qn_F, and_F, b01_T, b01_F, e_isIn, Int32.toInt_toInt64, am_i_toInt, am_l_toInt, Int.toNat_natCast, Int.reduceToNat, Int.reduceAdd, Int.reduceSub, Int.reduceMul, Int.reduceNeg, Nat.reduceAdd, Nat.reduceMul, Nat.add_zero, Nat.mul_zero, Nat.zero_add, am_zb0, am_zb1, e1, sg_X7_check_0, ck, un, u0, u1, e2]
    · rw [b01_ff (show okI last nb nt T n = false from if_neg (fun e => q1 e.2.1)), q]
      simp (disch := first | assumption | omega) only [sg_X7_lengthFor_0, ln, rX hx, ly_csx, ly_cax, ly_cf, ly_kd, ly_ln, ↓Bool.cond_decide, cond_true, cond_false, ↓bI_p, ↓bV_p, ↓bL_p, bIJ_s, bVJ_s, bLJ_s, ↓am_let_s, Nat.blt, Nat.ble, Bool.and_true, Bool.true_and, Bool.and_self, Int.cast_ofNat_Int, am_i_add, am_i_sub, am_i_mul, am_ok_i, am_i_cl, n_lt, n_le, n_eq, n_lt0, n_le0, n_0lt, n_0le, n_eq0, ne_eq, ↓reduceIte, not_true_eq_false, not_false_eq_true, and_true, true_and, and_false, false_and, eq_T, eq_F, lt_T, lt_F, le_T, le_F, qn_T, qn_F, and_F, b01_T, b01_F, e_isIn, Int32.toInt_toInt64, am_i_toInt, am_l_toInt, Int.toNat_natCast, Int.reduceToNat, Int.reduceAdd, Int.reduceSub, Int.reduceMul, Int.reduceNeg, Nat.reduceAdd, Nat.reduceMul, Nat.add_zero, Nat.mul_zero, Nat.zero_add, am_zb0, am_zb1, e1, sg_X7_check_0, ck, un, sg_X7_isOf_31]
  · rw [b01_ff (show okI last nb nt T n = false from if_neg (fun e => q e.1))]
    simp (disch := first | assumption | omega) only [sg_X7_lengthFor_0, ln, rX hx, ly_csx, ly_cax, ly_cf, ly_kd, ly_ln, ↓Bool.cond_decide, cond_true, cond_false, ↓bI_p, ↓bV_p, ↓bL_p, bIJ_s, bVJ_s, bLJ_s, ↓am_let_s, Nat.blt, Nat.ble, Bool.and_true, Bool.true_and, Bool.and_self, Int.cast_ofNat_Int, am_i_add, am_i_sub, am_i_mul, am_ok_i, am_i_cl, n_lt, n_le, n_eq, n_lt0, n_le0, n_0lt, n_0le, n_eq0, ne_eq, ↓reduceIte, not_true_eq_false, not_false_eq_true, and_true, true_and, and_false, false_and, eq_T, eq_F, lt_T, lt_F, le_T, le_F, qn_T, qn_F, and_F, b01_T, b01_F, e_isIn, Int32.toInt_toInt64, am_i_toInt, am_l_toInt, Int.toNat_natCast, Int.reduceToNat, Int.reduceAdd, Int.reduceSub, Int.reduceMul, Int.reduceNeg, Nat.reduceAdd, Nat.reduceMul, Nat.add_zero, Nat.mul_zero, Nat.zero_add, am_zb0, am_zb1, sg_X7_isOf_31]
theorem x_r20 {I0 : tI} (hx : st_Rx R) (hc : c = 10 ∨ c = 20) (h6 : nb ≤ 6) (hnt : ∀ b, b < nb → nt b ≤ 6 ∧ I0 (c + 4) b = am_i (nt b)) (hI1 : I0 c 1 = am_i nb) (hT : ∀ j, j < ofS nt nb → I0 4 j = am_i (T j)) : ∀ (m i : Nat) (I : tI), i + m = nb → (∀ q k, q ≠ 31 → I q k = I0 q k) → ∃ I', am_E (d + 1) 62 20 [(0, .ref 4), (1, .ref c), (2, .ref 31), (3, .int (am_i (ofS nt i))), (4, .int (am_i i))] [] (I, J, R, 138) = some (none, (I', J, R, 138)) ∧ (∀ b, i ≤ b → b < nb → ∀ k, k < 5 + nt b → I' 31 (11 * b + k) = am_i (T (ofS nt b + k))) ∧ (∀ q k, q ≠ 31 → I' q k = I0 q k) ∧ ∀ k, (k < 11 * i ∨ 66 ≤ k) → I' 31 k = I 31 k
  | 0, i, I, hi, hI => by
    have : i = nb := by omega
    subst this
    have e1 : I c 1 = am_i i := by rw [hI _ _ (by omega)]; exact hI1
    refine ⟨I, ?_, fun b b1 b2 => absurd b2 (by omega), hI, fun _ _ => rfl⟩
    rw [sg_X7_read_20]
    simp (disch := first | assumption | omega) only [rX hx, ly_csx, ly_cax, ly_cf, ly_kd, ly_ln, ↓Bool.cond_decide, cond_true, cond_false, ↓bI_p, ↓bV_p, ↓bL_p, bIJ_s, bVJ_s, bLJ_s, ↓am_let_s, Nat.blt, Nat.ble, Bool.and_true, Bool.true_and, Bool.and_self, Int.cast_ofNat_Int, am_i_add, am_i_sub, am_i_mul, am_ok_i, am_i_cl, n_lt, n_le, n_eq, n_lt0, n_le0, n_0lt, n_0le, n_eq0, ne_eq, ↓reduceIte, not_true_eq_false, not_false_eq_true, and_true, true_and, and_false, false_and, eq_T, eq_F, lt_T, lt_F, le_T, le_F, qn_T, qn_F, and_F, b01_T, b01_F, e_isIn, Int32.toInt_toInt64, am_i_toInt, am_l_toInt, Int.toNat_natCast, Int.reduceToNat, Int.reduceAdd, Int.reduceSub, Int.reduceMul, Int.reduceNeg, Nat.reduceAdd, Nat.reduceMul, Nat.add_zero, Nat.mul_zero, Nat.zero_add, am_zb0, am_zb1, rC hx hc, e1]
  | m + 1, i, I, hi, hI => by
    obtain ⟨n6, n4⟩ := hnt i (by omega)
    have ob := ofS_b (fun b hb => (hnt b hb).1) i (by omega)
    have om := ofS_m (nt := nt) (b := i) nb (by omega)
    have oe : ofS nt (i + 1) = ofS nt i + (5 + nt i) := rfl
    have e1 : I c 1 = am_i nb := by rw [hI _ _ (by omega)]; exact hI1
    have e4 : I (c + 4) i = am_i (nt i) := by rw [hI _ _ (by omega)]; exact n4
    have ei2 : (i : Int) * 11 = ((11 * i : Nat) : Int) := by omega
    have e5 : (5 : Int) + (nt i : Int) = ((5 + nt i : Nat) : Int) := by omega
    have es : (ofS nt i : Int) + ((5 + nt i : Nat) : Int) = ((ofS nt (i + 1) : Nat) : Int) := by omega
    have cy : am_cy 138 4 (am_i (ofS nt i)) 31 (am_i ((11 * i : Nat) : Int)) (am_i ((5 + nt i : Nat) : Int)) = true := cy_g (n0 := 1600) (n := 68) (by simp only [ly_kd]) (by simp only [ly_kd]) (by omega) (by omega) (by omega) (by omega) (by omega) (by omega)
    obtain ⟨I', p1, p2, p3, p4⟩ := x_r20 hx hc h6 hnt hI1 hT m (i + 1) (am_cp I 4 (ofS nt i) 31 (11 * i) (5 + nt i)) (by omega) (fun q k e => by rw [am_cp_ap, if_neg e]; exact hI q k e)
    refine ⟨I', ?_, fun b h1 h2 k hk => ?_, p3, fun k hk => ?_⟩
    · rw [← p1, sg_X7_read_20]
      simp (disch := first | assumption | omega) only [rX hx, ly_csx, ly_cax, ly_cf, ly_kd, ly_ln, ↓Bool.cond_decide, cond_true, cond_false, ↓bI_p, ↓bV_p, ↓bL_p, bIJ_s, bVJ_s, bLJ_s, ↓am_let_s, Nat.blt, Nat.ble, Bool.and_true, Bool.true_and, Bool.and_self, Int.cast_ofNat_Int, am_i_add, am_i_sub, am_i_mul, am_ok_i, am_i_cl, n_lt, n_le, n_eq, n_lt0, n_le0, n_0lt, n_0le, n_eq0, ne_eq, ↓reduceIte, not_true_eq_false, not_false_eq_true, and_true, true_and, and_false, false_and, eq_T, eq_F, lt_T, lt_F, le_T, le_F, qn_T, qn_F, and_F, b01_T, b01_F, e_isIn, Int32.toInt_toInt64, am_i_toInt, am_l_toInt, Int.toNat_natCast, Int.reduceToNat, Int.reduceAdd, Int.reduceSub, Int.reduceMul, Int.reduceNeg, Nat.reduceAdd, Nat.reduceMul, Nat.add_zero, Nat.mul_zero, Nat.zero_add, am_zb0, am_zb1, rC hx hc, e1, e4, ei2, e5, cy, es, am_i_s]
    · by_cases e : b = i
      · subst e
        rw [p4 _ (by omega), am_cp_ap, if_pos rfl]
        unfold va_cpy
        rw [if_pos (by omega), hI _ _ (by omega), show ofS nt b + (11 * b + k - 11 * b) = ofS nt b + k by omega]
        exact hT _ (by omega)
      · exact p2 b (by omega) h2 k hk
    · rw [p4 k (by omega), am_cp_ap, if_pos rfl]
      unfold va_cpy
      rw [if_neg (by omega)]
end ON
