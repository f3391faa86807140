/-! ===== which ===== -/
def fiR (H : Nat) (U V : Nat → Nat) (hd : Nat → Nat) : Nat → Nat → Bool
  | 0, _ => true
  | m + 1, r => if U r < H ∧ hd (U r) = V r then fiR H U V hd m (r + 1) else false
def fiS (p : Nat → Bool) : Nat → Nat → Nat → Nat
  | 0, _, a => a
  | m + 1, i, a => fiS p m (i + 1) (if p i = true then a ||| 2 ^ i else a)
section WHICH
variable {d : Nat} {J : tJ} {R0 R : tR} {c last wd nb : Nat} {nt wf : Nat → Nat} {fm : Nat → List tok}
theorem x_listen {I0 : tI} {s : Nat → bt} {h : Nat} (hx0 : st_Rx R0) (hmu : rR R0 R0) (hc : c = 10 ∨ c = 20) (h6 : nb ≤ 6) (hh : h ≤ 999) (h66 : I0 31 66 = am_i h) (hX : last ≠ 0 → cxX c last wd wf fm I0) (hl0 : last = 0 → nb = 0) (hI1 : I0 c 1 = am_i nb) (hnt : ∀ b, b < nb → nt b ≤ 6 ∧ I0 (c + 4) b = am_i (nt b)) (hB : ∀ b, b < nb → bOK last (nt b) (s b) ∧ bX (I0 31) (11 * b) (nt b) (s b)) : Wp (fun r M => ∃ I' R', r = none ∧ M = (I', J, R', 138) ∧ rR R0 R' ∧ (∀ q k, ¬ liC q k → I' q k = I0 q k) ∧ I' 57 3 = am_i (min 31 (999 - h) : Nat) ∧ (∀ b, b < nb → ∀ j, j < min 31 (999 - h) → I' 59 (31 * b + j) = am_i (hdS last wf fm wd (nt b) j (s b))) ∧ ∀ j, j < 186 → (∀ b, b < nb → ¬ (31 * b ≤ j ∧ j < 31 * b + min 31 (999 - h))) → I' 59 j = am_i (-1)) (am_E (d + 7) 31 0 [(0, .ref 57), (1, .ref 35), (2, .ref c), (3, .ref 31)] [] (I0, J, R0, 138)) := by
  have hx := hx0
  have e1 : am_i ((999 : Int) - h) = am_i ((999 - h : Nat) : Int) := by congr 1; omega
  have fin : Wp (fun r M => ∃ I' R', r = none ∧ M = (I', J, R', 138) ∧ rR R0 R' ∧ (∀ q k, ¬ liC q k → I' q k = I0 q k) ∧ I' 57 3 = am_i (min 31 (999 - h) : Nat) ∧ (∀ b, b < nb → ∀ j, j < min 31 (999 - h) → I' 59 (31 * b + j) = am_i (hdS last wf fm wd (nt b) j (s b))) ∧ ∀ j, j < 186 → (∀ b, b < nb → ¬ (31 * b ≤ j ∧ j < 31 * b + min 31 (999 - h))) → I' 59 j = am_i (-1)) (bVJ (fun M1 => am_E (d + 7) 31 28 [(0, .ref 57), (1, .ref 35), (2, .ref c), (3, .ref 31), (4, .int (am_i 0))] [] M1) (am_E (d + 6) 23 0 [(0, .ref 59), (1, .int (am_i (-1)))] [] (am_up I0 57 3 (am_i ((min 31 (999 - h) : Nat) : Int)), J, R0, 138))) := by
    have hk := ly_kd
    have fl := x_fill (d := d + 5) (J := J) (R := R0) (a := 59) (n := 186) (v := am_i (-1)) (by decide) (by simp only [ly_kd]; decide) (by simp only [ly_kd]; decide) (by simp only [ly_ln]) (fun i => by simp only [ly_cax]) (by omega) (am_up I0 57 3 (am_i ((min 31 (999 - h) : Nat) : Int)))
    refine Wp_V fl ?_
    rintro _ _ ⟨I1, rfl, rfl, f1, f2⟩
    refine ⟨rfl, ?_⟩
    have lp := x_l28 (d := d) (J := J) (R0 := R0) (I0 := I0) (s := s) (H := min 31 (999 - h)) hx0 hc h6 (by omega) hX hl0 hI1 hnt hB nb 0 I1 R0 (by omega) hmu (fun q k e => by rw [f2 q k (by unfold liC at e; omega), am_up_o (by unfold liC at e; omega)]) (by rw [f2 _ _ (by omega), am_up_e])
    refine Wp_m lp ?_
    rintro _ _ ⟨I', R', rfl, rfl, p1, p2, p3, p4, p5⟩
    exact ⟨I', R', rfl, rfl, p1, p2, p3, fun b hb => p4 b (by omega) hb, fun j hj e => by rw [p5 j (fun b _ b2 => e b b2), f1 j hj]⟩
  rw [sg_X4_listen_0]
  by_cases q : 999 - h < 31
  · have e2 : min 31 (999 - h) = 999 - h := by omega
    simp (disch := first | assumption | omega) only [rX hx, ly_csx, ly_cax, ly_cf, ly_kd, ly_ln, ↓Bool.cond_decide, cond_true, cond_false, ↓bI_p, ↓bV_p, ↓bL_p, bIJ_s, bVJ_s, bLJ_s, ↓am_let_s, Nat.blt, Nat.ble, Bool.and_true, Bool.true_and, Bool.and_self, Int.cast_ofNat_Int, am_i_add, am_i_sub, am_i_mul, am_ok_i, am_i_cl, n_lt, n_le, n_eq, n_lt0, n_le0, n_0lt, n_0le, n_eq0, ne_eq, ↓reduceIte, not_true_eq_false, not_false_eq_true, and_true, true_and, and_false, false_and, eq_T, eq_F, lt_T, lt_F, le_T, le_F, qn_T, qn_F, and_F, b01_T, b01_F, e_isIn, Int32.toInt_toInt64, am_i_toInt, am_l_toInt, Int.toNat_natCast, Int.reduceToNat, Int.reduceAdd, Int.reduceSub, Int.reduceMul, Int.reduceNeg, Nat.reduceAdd, Nat.reduceMul, Nat.add_zero, Nat.mul_zero, Nat.zero_add, am_zb0, am_zb1, h66, e1]
    rw [e2] at fin ⊢
    exact fin
  · have e2 : min 31 (999 - h) = 31 := by omega
    simp (disch := first | assumption | omega) only [rX hx, ly_csx, ly_cax, ly_cf, ly_kd, ly_ln, ↓Bool.cond_decide, cond_true, cond_false, ↓bI_p, ↓bV_p, ↓bL_p, bIJ_s, bVJ_s, bLJ_s, ↓am_let_s, Nat.blt, Nat.ble, Bool.and_true, Bool.true_and, Bool.and_self, Int.cast_ofNat_Int, am_i_add, am_i_sub, am_i_mul, am_ok_i, am_i_cl, n_lt, n_le, n_eq, n_lt0, n_le0, n_0lt, n_0le, n_eq0, ne_eq, ↓reduceIte, not_true_eq_false, not_false_eq_true, and_true, true_and, and_false, false_and, eq_T, eq_F, lt_T, lt_F, le_T, le_F, qn_T, qn_F, and_F, b01_T, b01_F, e_isIn, Int32.toInt_toInt64, am_i_toInt, am_l_toInt, Int.toNat_natCast, Int.reduceToNat, Int.reduceAdd, Int.reduceSub, Int.reduceMul, Int.reduceNeg, Nat.reduceAdd, Nat.reduceMul, Nat.add_zero, Nat.mul_zero, Nat.zero_add, am_zb0, am_zb1, h66, e1]
    rw [e2] at fin ⊢
    exact fin
theorem x_fits {I : tI} {n H b : Nat} {U V : Nat → Nat} {hd : Nat → Nat} (hx : st_Rx R) (hn : n ≤ 16) (hH : H ≤ 31) (hb : b < 6) (e1 : I 57 1 = am_i n) (hUV : ∀ r, r < n → U r ≤ 30 ∧ V r ≤ 8 ∧ I 58 (2 * r) = am_i (U r) ∧ I 58 (2 * r + 1) = am_i (V r)) (hh : ∀ j, j < H → hd j ≤ 8 ∧ I 59 (31 * b + j) = am_i (hd j)) (hh2 : ∀ j, H ≤ j → j < 31 → I 59 (31 * b + j) = am_i (-1)) : ∀ (m r : Nat), r + m = n → am_E (d + 1) 33 2 [(0, .ref 57), (1, .int (am_i b)), (2, .int (am_i r))] [] (I, J, R, 138) = some (some (.int (b01 (fiR H U V hd m r = true))), (I, J, R, 138))
  | 0, r, hr => by
    rw [sg_X4_fits_2, b01_t (show fiR H U V hd 0 r = true from rfl)]
    simp (disch := first | assumption | omega) only [rX hx, ly_csx, ly_cax, ly_cf, ly_kd, ly_ln, ↓Bool.cond_decide, cond_true, cond_false, ↓bI_p, ↓bV_p, ↓bL_p, bIJ_s, bVJ_s, bLJ_s, ↓am_let_s, Nat.blt, Nat.ble, Bool.and_true, Bool.true_and, Bool.and_self, Int.cast_ofNat_Int, am_i_add, am_i_sub, am_i_mul, am_ok_i, am_i_cl, n_lt, n_le, n_eq, n_lt0, n_le0, n_0lt, n_0le, n_eq0, ne_eq, ↓reduceIte, not_true_eq_false, not_false_eq_true, and_true, true_and, and_false, false_and, eq_T, eq_F, lt_T, lt_F, le_T, le_F, qn_T, qn_F, and_F, b01_T, b01_F, e_isIn, Int32.toInt_toInt64, am_i_toInt, am_l_toInt, Int.toNat_natCast, Int.reduceToNat, Int.reduceAdd, Int.reduceSub, Int.reduceMul, Int.reduceNeg, Nat.reduceAdd, Nat.reduceMul, Nat.add_zero, Nat.mul_zero, Nat.zero_add, am_zb0, am_zb1, e1]
  | m + 1, r, hr => by
    obtain ⟨u1, v1, u2, v2⟩ := hUV r (by omega)
    have n1 : ((2 : Int) * (r : Int)).toNat = 2 * r := by omega
    have n2 : ((2 : Int) * (r : Int) + 1).toNat = 2 * r + 1 := by omega
    have n3 : ((b : Int) * 31 + (U r : Int)).toNat = 31 * b + U r := by omega
    have ih := x_fits hx hn hH hb e1 hUV hh hh2 m (r + 1) (by omega)
    rw [sg_X4_fits_2]
    by_cases q : U r < H
    · obtain ⟨h8, h59⟩ := hh (U r) q
      by_cases q2 : hd (U r) = V r
      · rw [show fiR H U V hd (m + 1) r = fiR H U V hd m (r + 1) from if_pos ⟨q, q2⟩]
        simp (disch := first | assumption | omega) only [rX hx, ly_csx, ly_cax, ly_cf, ly_kd, ly_ln, ↓Bool.cond_decide, cond_true, cond_false, ↓bI_p, ↓bV_p, ↓bL_p, bIJ_s, bVJ_s, bLJ_s, ↓am_let_s, Nat.blt, Nat.ble, Bool.and_true, Bool.true_and, Bool.and_self, Int.cast_ofNat_Int, am_i_add, am_i_sub, am_i_mul, am_ok_i, am_i_cl, n_lt, n_le, n_eq, n_lt0, n_le0, n_0lt, n_0le, n_eq0, ne_eq, ↓reduceIte, not_true_eq_false, not_false_eq_true, and_true, true_and, and_false, false_and, eq_T, eq_F, lt_T, lt_F, le_T, le_F, qn_T, qn_F, and_F, b01_T, b01_F, e_isIn, Int32.toInt_toInt64, am_i_toInt, am_l_toInt, Int.toNat_natCast, Int.reduceToNat, Int.reduceAdd, Int.reduceSub, Int.reduceMul, Int.reduceNeg, Nat.reduceAdd, Nat.reduceMul, Nat.add_zero, Nat.mul_zero, Nat.zero_add, am_zb0, am_zb1, e1, n1, n2, u2, n3, h59, v2, am_i_s, ih]
      · rw [show fiR H U V hd (m + 1) r = false from if_neg (fun e => q2 e.2), b01_f (by decide)]
        simp (disch := first | assumption | omega) only [rX hx, ly_csx, ly_cax, ly_cf, ly_kd, ly_ln, ↓Bool.cond_decide, cond_true, cond_false, ↓bI_p, ↓bV_p, ↓bL_p, bIJ_s, bVJ_s, bLJ_s, ↓am_let_s, Nat.blt, Nat.ble, Bool.and_true, Bool.true_and, Bool.and_self, Int.cast_ofNat_Int, am_i_add, am_i_sub, am_i_mul, am_ok_i, am_i_cl, n_lt, n_le, n_eq, n_lt0, n_le0, n_0lt, n_0le, n_eq0, ne_eq, ↓reduceIte, not_true_eq_false, not_false_eq_true, and_true, true_and, and_false, false_and, eq_T, eq_F, lt_T, lt_F, le_T, le_F, qn_T, qn_F, and_F, b01_T, b01_F, e_isIn, Int32.toInt_toInt64, am_i_toInt, am_l_toInt, Int.toNat_natCast, Int.reduceToNat, Int.reduceAdd, Int.reduceSub, Int.reduceMul, Int.reduceNeg, Nat.reduceAdd, Nat.reduceMul, Nat.add_zero, Nat.mul_zero, Nat.zero_add, am_zb0, am_zb1, e1, n1, n2, u2, n3, h59, v2]
    · have h59 := hh2 (U r) (by omega) (by omega)
      rw [show fiR H U V hd (m + 1) r = false from if_neg (fun e => q e.1), b01_f (by decide)]
      simp (disch := first | assumption | omega) only [rX hx, ly_csx, ly_cax, ly_cf, ly_kd, ly_ln, ↓Bool.cond_decide, cond_true, cond_false, ↓bI_p, ↓bV_p, ↓bL_p, bIJ_s, bVJ_s, bLJ_s, ↓am_let_s, Nat.blt, Nat.ble, Bool.and_true, Bool.true_and, Bool.and_self, Int.cast_ofNat_Int, am_i_add, am_i_sub, am_i_mul, am_ok_i, am_i_cl, n_lt, n_le, n_eq, n_lt0, n_le0, n_0lt, n_0le, n_eq0, ne_eq, ↓reduceIte, not_true_eq_false, not_false_eq_true, and_true, true_and, and_false, false_and, eq_T, eq_F, lt_T, lt_F, le_T, le_F, qn_T, qn_F, and_F, b01_T, b01_F, e_isIn, Int32.toInt_toInt64, am_i_toInt, am_l_toInt, Int.toNat_natCast, Int.reduceToNat, Int.reduceAdd, Int.reduceSub, Int.reduceMul, Int.reduceNeg, Nat.reduceAdd, Nat.reduceMul, Nat.add_zero, Nat.mul_zero, Nat.zero_add, am_zb0, am_zb1, e1, n1, n2, u2, n3, h59, v2]
theorem or_b {a i : Nat} (hi : i < 6) (ha : a < 64) : am_i (a : Int) ||| (am_i 1 <<< (am_i (i : Int) &&& 31)) = am_i ((a ||| 2 ^ i : Nat) : Int) ∧ a ||| 2 ^ i < 64 := by
  have e : am_i 1 = am_i ((1 : Nat) : Int) := rfl
  refine ⟨?_, Nat.or_lt_two_pow (n := 6) ha (Nat.pow_lt_pow_right (by omega) hi)⟩
  rw [s_31 (by omega), e, s_shl (by omega), s_or, Nat.one_mul]
theorem x_fitting {I : tI} {p : Nat → Bool} (h6 : nb ≤ 6) (hp : ∀ d b, b < nb → am_E (d + 1) 33 2 [(0, .ref 57), (1, .int (am_i b)), (2, .int (am_i 0))] [] (I, J, R, 138) = some (some (.int (b01 (p b = true))), (I, J, R, 138))) : ∀ (m i a : Nat), i + m = nb → a < 64 → am_E (d + 2) 32 4 [(0, .ref 57), (1, .int (am_i nb)), (2, .int (am_i a)), (3, .int (am_i i))] [] (I, J, R, 138) = some (some (.int (am_i (fiS p m i a : Nat))), (I, J, R, 138))
  | 0, i, a, hi, ha => by
    rw [sg_X4_fitting_4]
    simp (disch := first | assumption | omega) only [am_i_add, am_i_sub, am_i_mul, am_ok_i, am_i_cl, n_lt, n_le, n_eq, n_lt0, n_le0, n_0lt, n_0le, n_eq0, ne_eq, ↓reduceIte, not_true_eq_false, not_false_eq_true, and_true, true_and, and_false, false_and, eq_T, eq_F, lt_T, lt_F, le_T, le_F, qn_T, qn_F, and_F, b01_T, b01_F, e_isIn, Int32.toInt_toInt64, am_i_toInt, am_l_toInt, Int.toNat_natCast, Int.reduceToNat, Int.reduceAdd, Int.reduceSub, Int.reduceMul, Int.reduceNeg, Nat.reduceAdd, Nat.reduceMul, Nat.add_zero, Nat.mul_zero, Nat.zero_add, am_zb0, am_zb1, ↓Bool.cond_decide, cond_true, cond_false, ↓am_let_s, ↓bI_p, bIJ_s, ↓bV_p, bVJ_s, ↓bL_p, bLJ_s, ly_cf, Bool.and_self, Bool.and_true, fiS]
  | m + 1, i, a, hi, ha => by
    obtain ⟨o1, o2⟩ := or_b (a := a) (i := i) (by omega) ha
    have hpi := fun d => hp d i (by omega)
    rw [sg_X4_fitting_4]
    by_cases q : p i = true
    · have ih := x_fitting h6 hp m (i + 1) (a ||| 2 ^ i) (by omega) o2
      simp (disch := first | assumption | omega) only [am_i_add, am_i_sub, am_i_mul, am_ok_i, am_i_cl, n_lt, n_le, n_eq, n_lt0, n_le0, n_0lt, n_0le, n_eq0, ne_eq, ↓reduceIte, not_true_eq_false, not_false_eq_true, and_true, true_and, and_false, false_and, eq_T, eq_F, lt_T, lt_F, le_T, le_F, qn_T, qn_F, and_F, b01_T, b01_F, e_isIn, Int32.toInt_toInt64, am_i_toInt, am_l_toInt, Int.toNat_natCast, Int.reduceToNat, Int.reduceAdd, Int.reduceSub, Int.reduceMul, Int.reduceNeg, Nat.reduceAdd, Nat.reduceMul, Nat.add_zero, Nat.mul_zero, Nat.zero_add, am_zb0, am_zb1, ↓Bool.cond_decide, cond_true, cond_false, ↓am_let_s, ↓bI_p, bIJ_s, ↓bV_p, bVJ_s, ↓bL_p, bLJ_s, ly_cf, Bool.and_self, Bool.and_true, sg_X4_fits_0, hpi, b01_t q, o1, sg_X4_fitting_23, am_i_s, ih, fiS, q]
    · have ih := x_fitting h6 hp m (i + 1) a (by omega) ha
      have q' : p i = false := by simpa using q
      simp (disch := first | assumption | omega) only [am_i_add, am_i_sub, am_i_mul, am_ok_i, am_i_cl, n_lt, n_le, n_eq, n_lt0, n_le0, n_0lt, n_0le, n_eq0, ne_eq, ↓reduceIte, not_true_eq_false, not_false_eq_true, and_true, true_and, and_false, false_and, eq_T, eq_F, lt_T, lt_F, le_T, le_F, qn_T, qn_F, and_F, b01_T, b01_F, e_isIn, Int32.toInt_toInt64, am_i_toInt, am_l_toInt, Int.toNat_natCast, Int.reduceToNat, Int.reduceAdd, Int.reduceSub, Int.reduceMul, Int.reduceNeg, Nat.reduceAdd, Nat.reduceMul, Nat.add_zero, Nat.mul_zero, Nat.zero_add, am_zb0, am_zb1, ↓Bool.cond_decide, cond_true, cond_false, ↓am_let_s, ↓bI_p, bIJ_s, ↓bV_p, bVJ_s, ↓bL_p, bLJ_s, ly_cf, Bool.and_self, Bool.and_true, sg_X4_fits_0, hpi, b01_f q, sg_X4_fitting_23, am_i_s, ih, fiS, if_neg q]
end WHICH
