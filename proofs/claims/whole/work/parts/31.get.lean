/-! ===== numbers; what both look up ===== -/
theorem am_i_mul (a b : Int) : am_i a * am_i b = am_i (a * b) := (Int32.ofInt_mul a b).symm
section NUM
variable {a b : Int}
theorem n_lt (ha : -2147483648 ≤ a) (ha2 : a < 2147483648) (hb : -2147483648 ≤ b) (hb2 : b < 2147483648) : (am_i a < am_i b) = (a < b) := propext (am_i_lt ha ha2 hb hb2)
theorem n_le (ha : -2147483648 ≤ a) (ha2 : a < 2147483648) (hb : -2147483648 ≤ b) (hb2 : b < 2147483648) : (am_i a ≤ am_i b) = (a ≤ b) := propext (am_i_le ha ha2 hb hb2)
theorem n_eq (ha : -2147483648 ≤ a) (ha2 : a < 2147483648) (hb : -2147483648 ≤ b) (hb2 : b < 2147483648) : (am_i a = am_i b) = (a = b) := propext (by rw [am_i_iff hb hb2, am_i_toInt ha ha2])
theorem n_lt0 (ha : -2147483648 ≤ a) (ha2 : a < 2147483648) : (am_i a < 0) = (a < 0) := n_lt ha ha2 (b := 0) (by decide) (by decide)
theorem n_le0 (ha : -2147483648 ≤ a) (ha2 : a < 2147483648) : (am_i a ≤ 0) = (a ≤ 0) := n_le ha ha2 (b := 0) (by decide) (by decide)
theorem n_0lt (ha : -2147483648 ≤ a) (ha2 : a < 2147483648) : (0 < am_i a) = (0 < a) := n_lt (a := 0) (b := a) (by decide) (by decide) ha ha2
theorem n_0le (ha : -2147483648 ≤ a) (ha2 : a < 2147483648) : (0 ≤ am_i a) = (0 ≤ a) := n_le (a := 0) (b := a) (by decide) (by decide) ha ha2
theorem n_eq0 (ha : -2147483648 ≤ a) (ha2 : a < 2147483648) : (am_i a = 0) = (a = 0) := n_eq ha ha2 (b := 0) (by decide) (by decide)
theorem i32_z (a : Int32) : ∃ z : Int, -2147483648 ≤ z ∧ z < 2147483648 ∧ a = am_i z := ⟨a.toInt, Int32.le_toInt a, Int32.toInt_lt a, (Int32.ofInt_toInt a).symm⟩
end NUM
section GET
variable {d : Nat} {I : tI} {J : tJ} {R : tR}
theorem e_slot {b k : Int} (hx : st_Rx R) (h0 : 0 ≤ b) (h1 : b < 6) (h2 : 0 ≤ k) (h3 : k < 11) : am_E (d + 1) 144 0 [(0, .ref 3), (1, .int (am_i b)), (2, .int (am_i k))] [] (I, J, R, 138) = some (some (.int (I 31 (11 * b.toNat + k.toNat))), (I, J, R, 138)) := by
  have hx' := hx
  unfold st_Rx at hx'
  have e : (b * 11 + k).toNat = 11 * b.toNat + k.toNat := by omega
  rw [sg_X11_slot_0]
  simp (disch := first | assumption | omega) only [hx', ly_csx, ly_cax, ly_cf, ly_kd, ly_ln, Bool.cond_decide, cond_true, cond_false, am_bI_s, am_bV_s, am_bL_s, am_let_s, Nat.blt, Nat.ble, Bool.and_true, Bool.true_and, Bool.and_self, Int.cast_ofNat_Int, am_i_add, am_i_sub, am_i_mul, am_ok_i, am_i_cl, n_lt, n_le, n_eq, n_lt0, n_le0, n_0lt, n_0le, n_eq0, ne_eq, reduceIte, not_true_eq_false, not_false_eq_true, if_pos, if_neg, e_isIn, Int32.toInt_toInt64, am_i_toInt, am_l_toInt, Int.toNat_natCast, Int.reduceToNat, Int.reduceAdd, Int.reduceSub, Int.reduceMul, Int.reduceNeg, Nat.reduceAdd, Nat.reduceMul, Nat.add_zero, Nat.mul_zero, Nat.zero_add, am_zb0, am_zb1, e]
/-- the reference's looks at a boat -/
theorem e_of {mi j : Nat} {b : Int} {n : Nat} (hs : ∀ (d a0 : Nat) (a1 : Int32) (M : am_Mem), am_E (d + 1) mi 0 [(0, .ref a0), (1, .int a1)] [] M = (bif am_cf M.2.2.2 a0 12 then (bif am_cs M.2.2.1 M.2.2.2 (M.2.2.1 a0 52) ((am_i j) + ((am_i 11) * a1)) then some (some (.int (M.1 (M.2.2.1 a0 52) ((am_i j) + ((am_i 11) * a1)).toNatClampNeg)), M) else none) else none)) (hm : st_Rm R) (hj : j < 7) (h0 : 0 ≤ b) (h1 : b < 6) : am_E (d + 1) mi 0 [(0, .ref 64), (1, .int (am_i b))] [] (I, J, R, 138) = some (some (.int (I 103 (j + 11 * b.toNat))), (I, J, R, 138)) := by
  have hm' := hm
  unfold st_Rm at hm'
  have e : ((j : Int) + 11 * b).toNat = j + 11 * b.toNat := by omega
  rw [hs]
  simp (disch := first | assumption | omega) only [hm', ly_csm, ly_cam, ly_cf, ly_kd, ly_ln, Bool.cond_decide, cond_true, cond_false, am_bI_s, am_bV_s, am_bL_s, am_let_s, Nat.blt, Nat.ble, Bool.and_true, Bool.true_and, Bool.and_self, Int.cast_ofNat_Int, am_i_add, am_i_sub, am_i_mul, am_ok_i, am_i_cl, n_lt, n_le, n_eq, n_lt0, n_le0, n_0lt, n_0le, n_eq0, ne_eq, reduceIte, not_true_eq_false, not_false_eq_true, if_pos, if_neg, e_isIn, Int32.toInt_toInt64, am_i_toInt, am_l_toInt, Int.toNat_natCast, Int.reduceToNat, Int.reduceAdd, Int.reduceSub, Int.reduceMul, Int.reduceNeg, Nat.reduceAdd, Nat.reduceMul, Nat.add_zero, Nat.mul_zero, Nat.zero_add, am_zb0, am_zb1, e]
theorem e_mileOf {b : Int} (hm : st_Rm R) (h0 : 0 ≤ b) (h1 : b < 6) : am_E (d + 1) 195 0 [(0, .ref 64), (1, .int (am_i b))] [] (I, J, R, 138) = some (some (.int (I 103 (1 + 11 * b.toNat))), (I, J, R, 138)) := e_of (j := 1) (n := 0) sg_X12_mileOf_0 hm (by decide) h0 h1
theorem e_tightOf {b : Int} (hm : st_Rm R) (h0 : 0 ≤ b) (h1 : b < 6) : am_E (d + 1) 196 0 [(0, .ref 64), (1, .int (am_i b))] [] (I, J, R, 138) = some (some (.int (I 103 (2 + 11 * b.toNat))), (I, J, R, 138)) := e_of (j := 2) (n := 0) sg_X12_tightOf_0 hm (by decide) h0 h1
theorem e_rosinOf {b : Int} (hm : st_Rm R) (h0 : 0 ≤ b) (h1 : b < 6) : am_E (d + 1) 197 0 [(0, .ref 64), (1, .int (am_i b))] [] (I, J, R, 138) = some (some (.int (I 103 (3 + 11 * b.toNat))), (I, J, R, 138)) := e_of (j := 3) (n := 0) sg_X12_rosinOf_0 hm (by decide) h0 h1
theorem e_placeOf {b : Int} (hm : st_Rm R) (h0 : 0 ≤ b) (h1 : b < 6) : am_E (d + 1) 199 0 [(0, .ref 64), (1, .int (am_i b))] [] (I, J, R, 138) = some (some (.int (I 103 (5 + 11 * b.toNat))), (I, J, R, 138)) := e_of (j := 5) (n := 0) sg_X12_placeOf_0 hm (by decide) h0 h1
theorem e_noteOf {b k : Int} (hm : st_Rm R) (h0 : 0 ≤ b) (h1 : b < 6) (h2 : 0 ≤ k) (h3 : k < 6) : am_E (d + 1) 200 0 [(0, .ref 64), (1, .int (am_i b)), (2, .int (am_i k))] [] (I, J, R, 138) = some (some (.int (I 103 (6 + 11 * b.toNat + k.toNat))), (I, J, R, 138)) := by
  have hm' := hm
  unfold st_Rm at hm'
  have e : ((6 : Int) + 11 * b + k).toNat = 6 + 11 * b.toNat + k.toNat := by omega
  rw [sg_X12_noteOf_0]
  simp (disch := first | assumption | omega) only [hm', ly_csm, ly_cam, ly_cf, ly_kd, ly_ln, Bool.cond_decide, cond_true, cond_false, am_bI_s, am_bV_s, am_bL_s, am_let_s, Nat.blt, Nat.ble, Bool.and_true, Bool.true_and, Bool.and_self, Int.cast_ofNat_Int, am_i_add, am_i_sub, am_i_mul, am_ok_i, am_i_cl, n_lt, n_le, n_eq, n_lt0, n_le0, n_0lt, n_0le, n_eq0, ne_eq, reduceIte, not_true_eq_false, not_false_eq_true, if_pos, if_neg, e_isIn, Int32.toInt_toInt64, am_i_toInt, am_l_toInt, Int.toNat_natCast, Int.reduceToNat, Int.reduceAdd, Int.reduceSub, Int.reduceMul, Int.reduceNeg, Nat.reduceAdd, Nat.reduceMul, Nat.add_zero, Nat.mul_zero, Nat.zero_add, am_zb0, am_zb1, e]
theorem e_noteMany {b : Int} (hm : st_Rm R) (h0 : 0 ≤ b) (h1 : b < 6) : am_E (d + 1) 201 0 [(0, .ref 64), (1, .int (am_i b))] [] (I, J, R, 138) = some (some (.int (I 96 (27 + 4 * b.toNat))), (I, J, R, 138)) := by
  have hm' := hm
  unfold st_Rm at hm'
  have e : ((27 : Int) + 4 * b).toNat = 27 + 4 * b.toNat := by omega
  rw [sg_X12_noteMany_0]
  simp (disch := first | assumption | omega) only [hm', ly_csm, ly_cam, ly_cf, ly_kd, ly_ln, Bool.cond_decide, cond_true, cond_false, am_bI_s, am_bV_s, am_bL_s, am_let_s, Nat.blt, Nat.ble, Bool.and_true, Bool.true_and, Bool.and_self, Int.cast_ofNat_Int, am_i_add, am_i_sub, am_i_mul, am_ok_i, am_i_cl, n_lt, n_le, n_eq, n_lt0, n_le0, n_0lt, n_0le, n_eq0, ne_eq, reduceIte, not_true_eq_false, not_false_eq_true, if_pos, if_neg, e_isIn, Int32.toInt_toInt64, am_i_toInt, am_l_toInt, Int.toNat_natCast, Int.reduceToNat, Int.reduceAdd, Int.reduceSub, Int.reduceMul, Int.reduceNeg, Nat.reduceAdd, Nat.reduceMul, Nat.add_zero, Nat.mul_zero, Nat.zero_add, am_zb0, am_zb1, e]
theorem e_isSunk {b : Int} {v : Nat} (hm : st_Rm R) (h0 : 0 ≤ b) (h1 : b < 6) (hv : I 103 (4 + 11 * b.toNat) = am_i v) (hv1 : v ≤ 1) : am_E (d + 1) 198 0 [(0, .ref 64), (1, .int (am_i b))] [] (I, J, R, 138) = some (some (.int (am_i v)), (I, J, R, 138)) := by
  have hm' := hm
  unfold st_Rm at hm'
  have e : ((4 : Int) + 11 * b).toNat = 4 + 11 * b.toNat := by omega
  rw [sg_X12_isSunk_0]
  simp (disch := first | assumption | omega) only [hm', ly_csm, ly_cam, ly_cf, ly_kd, ly_ln, Bool.cond_decide, cond_true, cond_false, am_bI_s, am_bV_s, am_bL_s, am_let_s, Nat.blt, Nat.ble, Bool.and_true, Bool.true_and, Bool.and_self, Int.cast_ofNat_Int, am_i_add, am_i_sub, am_i_mul, am_ok_i, am_i_cl, n_lt, n_le, n_eq, n_lt0, n_le0, n_0lt, n_0le, n_eq0, ne_eq, reduceIte, not_true_eq_false, not_false_eq_true, if_pos, if_neg, e_isIn, Int32.toInt_toInt64, am_i_toInt, am_l_toInt, Int.toNat_natCast, Int.reduceToNat, Int.reduceAdd, Int.reduceSub, Int.reduceMul, Int.reduceNeg, Nat.reduceAdd, Nat.reduceMul, Nat.add_zero, Nat.mul_zero, Nat.zero_add, am_zb0, am_zb1, e, hv]
  by_cases q : v = 1
  · subst q
    simp (disch := first | assumption | omega) only [am_i_add, am_i_sub, am_i_mul, am_ok_i, am_i_cl, n_lt, n_le, n_eq, n_lt0, n_le0, n_0lt, n_0le, n_eq0, ne_eq, reduceIte, not_true_eq_false, not_false_eq_true, if_pos, if_neg, e_isIn, Int32.toInt_toInt64, am_i_toInt, am_l_toInt, Int.toNat_natCast, Int.reduceToNat, Int.reduceAdd, Int.reduceSub, Int.reduceMul, Int.reduceNeg, Nat.reduceAdd, Nat.reduceMul, Nat.add_zero, Nat.mul_zero, Nat.zero_add, am_zb0, am_zb1, not_true, if_neg]
    rfl
  · have q0 : v = 0 := by omega
    subst q0
    rw [if_pos (by decide)]
    rfl
theorem e_mLanded {b : Int} {v w : Nat} (hm : st_Rm R) (h0 : 0 ≤ b) (h1 : b < 6) (hv : I 103 (1 + 11 * b.toNat) = am_i v) (hw : I 93 3 = am_i w) (hv1 : v ≤ 60) (hw1 : w ≤ 60) : am_E (d + 2) 204 0 [(0, .ref 64), (1, .int (am_i b))] [] (I, J, R, 138) = some (some (.int (b01 (v = w))), (I, J, R, 138)) := by
  have hm' := hm
  unfold st_Rm at hm'
  rw [sg_X12_isLanded_0]
  simp (disch := first | assumption | omega) only [hm', ly_csm, ly_cam, ly_cf, ly_kd, ly_ln, Bool.cond_decide, cond_true, cond_false, am_bI_s, am_bV_s, am_bL_s, am_let_s, Nat.blt, Nat.ble, Bool.and_true, Bool.true_and, Bool.and_self, Int.cast_ofNat_Int, am_i_add, am_i_sub, am_i_mul, am_ok_i, am_i_cl, n_lt, n_le, n_eq, n_lt0, n_le0, n_0lt, n_0le, n_eq0, ne_eq, reduceIte, not_true_eq_false, not_false_eq_true, if_pos, if_neg, e_isIn, Int32.toInt_toInt64, am_i_toInt, am_l_toInt, Int.toNat_natCast, Int.reduceToNat, Int.reduceAdd, Int.reduceSub, Int.reduceMul, Int.reduceNeg, Nat.reduceAdd, Nat.reduceMul, Nat.add_zero, Nat.mul_zero, Nat.zero_add, am_zb0, am_zb1, e_mileOf hm h0 h1, hv, hw]
  by_cases q : v = w
  · rw [b01_t q, if_neg (by omega)]
  · rw [b01_f q, if_pos (by omega)]
theorem e_xLanded {b : Int} {v w c : Nat} (hx : st_Rx R) (h4 : R 3 4 = c) (hc : c = 10 ∨ c = 20) (h0 : 0 ≤ b) (h1 : b < 6) (hv : I 31 (11 * b.toNat) = am_i v) (hw : I c 0 = am_i w) (hv1 : v ≤ 60) (hw1 : w ≤ 60) : am_E (d + 2) 146 0 [(0, .ref 3), (1, .int (am_i b))] [] (I, J, R, 138) = some (some (.int (b01 (v = w))), (I, J, R, 138)) := by
  have hx' := hx
  unfold st_Rx at hx'
  have hch := ch_of hx hc
  unfold chR at hch
  rw [sg_X11_isLanded_0]
  simp (disch := first | assumption | omega) only [hx', ly_csx, ly_cax, ly_cf, ly_kd, ly_ln, Bool.cond_decide, cond_true, cond_false, am_bI_s, am_bV_s, am_bL_s, am_let_s, Nat.blt, Nat.ble, Bool.and_true, Bool.true_and, Bool.and_self, Int.cast_ofNat_Int, am_i_add, am_i_sub, am_i_mul, am_ok_i, am_i_cl, n_lt, n_le, n_eq, n_lt0, n_le0, n_0lt, n_0le, n_eq0, ne_eq, reduceIte, not_true_eq_false, not_false_eq_true, if_pos, if_neg, e_isIn, Int32.toInt_toInt64, am_i_toInt, am_l_toInt, Int.toNat_natCast, Int.reduceToNat, Int.reduceAdd, Int.reduceSub, Int.reduceMul, Int.reduceNeg, Nat.reduceAdd, Nat.reduceMul, Nat.add_zero, Nat.mul_zero, Nat.zero_add, am_zb0, am_zb1, h4, hch, e_slot, hv, hw]
  by_cases q : v = w
  · rw [b01_t q, if_neg (by omega)]
  · rw [b01_f q, if_pos (by omega)]
/-- both: is it a place of a boat's score -/
theorem e_xisPlace {a k : Int} {n c nb : Nat} (hx : st_Rx R) (h4 : R 3 4 = c) (hc : c = 10 ∨ c = 20) (hnb : nb ≤ 6) (h : I c 1 = am_i nb) (ha : -2147483648 ≤ a) (ha2 : a < 2147483648) (hk : -2147483648 ≤ k) (hk2 : k < 2147483648) (hn : 0 ≤ a → a < nb → n ≤ 6 ∧ I (c + 4) a.toNat = am_i n) : am_E (d + 2) 140 0 [(0, .ref 3), (1, .int (am_i a)), (2, .int (am_i k))] [] (I, J, R, 138) = some (some (.int (b01 ((0 ≤ a ∧ a < nb) ∧ 0 ≤ k ∧ k < n))), (I, J, R, 138)) := by
  have hx' := hx
  unfold st_Rx at hx'
  have hch := ch_of hx hc
  unfold chR at hch
  rw [sg_X11_isPlace_0]
  by_cases q : 0 ≤ a ∧ a < nb
  · obtain ⟨hn6, hn'⟩ := hn q.1 q.2
    by_cases q2 : k < 0
    · simp (disch := first | assumption | omega) only [hx', ly_csx, ly_cax, ly_cf, ly_kd, ly_ln, Bool.cond_decide, cond_true, cond_false, am_bI_s, am_bV_s, am_bL_s, am_let_s, Nat.blt, Nat.ble, Bool.and_true, Bool.true_and, Bool.and_self, Int.cast_ofNat_Int, am_i_add, am_i_sub, am_i_mul, am_ok_i, am_i_cl, n_lt, n_le, n_eq, n_lt0, n_le0, n_0lt, n_0le, n_eq0, ne_eq, reduceIte, not_true_eq_false, not_false_eq_true, if_pos, if_neg, e_isIn, Int32.toInt_toInt64, am_i_toInt, am_l_toInt, Int.toNat_natCast, Int.reduceToNat, Int.reduceAdd, Int.reduceSub, Int.reduceMul, Int.reduceNeg, Nat.reduceAdd, Nat.reduceMul, Nat.add_zero, Nat.mul_zero, Nat.zero_add, am_zb0, am_zb1, h4, hch, e_xisBoat _ _ nb c I J R hx h4 hc hnb h, b01_t, b01_f, sg_X11_isPlace_29]
    · by_cases q3 : k < n
      · simp (disch := first | assumption | omega) only [hx', ly_csx, ly_cax, ly_cf, ly_kd, ly_ln, Bool.cond_decide, cond_true, cond_false, am_bI_s, am_bV_s, am_bL_s, am_let_s, Nat.blt, Nat.ble, Bool.and_true, Bool.true_and, Bool.and_self, Int.cast_ofNat_Int, am_i_add, am_i_sub, am_i_mul, am_ok_i, am_i_cl, n_lt, n_le, n_eq, n_lt0, n_le0, n_0lt, n_0le, n_eq0, ne_eq, reduceIte, not_true_eq_false, not_false_eq_true, if_pos, if_neg, e_isIn, Int32.toInt_toInt64, am_i_toInt, am_l_toInt, Int.toNat_natCast, Int.reduceToNat, Int.reduceAdd, Int.reduceSub, Int.reduceMul, Int.reduceNeg, Nat.reduceAdd, Nat.reduceMul, Nat.add_zero, Nat.mul_zero, Nat.zero_add, am_zb0, am_zb1, h4, hch, e_xisBoat _ _ nb c I J R hx h4 hc hnb h, b01_t, b01_f, sg_X11_isPlace_29, hn']
      · simp (disch := first | assumption | omega) only [hx', ly_csx, ly_cax, ly_cf, ly_kd, ly_ln, Bool.cond_decide, cond_true, cond_false, am_bI_s, am_bV_s, am_bL_s, am_let_s, Nat.blt, Nat.ble, Bool.and_true, Bool.true_and, Bool.and_self, Int.cast_ofNat_Int, am_i_add, am_i_sub, am_i_mul, am_ok_i, am_i_cl, n_lt, n_le, n_eq, n_lt0, n_le0, n_0lt, n_0le, n_eq0, ne_eq, reduceIte, not_true_eq_false, not_false_eq_true, if_pos, if_neg, e_isIn, Int32.toInt_toInt64, am_i_toInt, am_l_toInt, Int.toNat_natCast, Int.reduceToNat, Int.reduceAdd, Int.reduceSub, Int.reduceMul, Int.reduceNeg, Nat.reduceAdd, Nat.reduceMul, Nat.add_zero, Nat.mul_zero, Nat.zero_add, am_zb0, am_zb1, h4, hch, e_xisBoat _ _ nb c I J R hx h4 hc hnb h, b01_t, b01_f, sg_X11_isPlace_29, hn']
  · simp (disch := first | assumption | omega) only [hx', ly_csx, ly_cax, ly_cf, ly_kd, ly_ln, Bool.cond_decide, cond_true, cond_false, am_bI_s, am_bV_s, am_bL_s, am_let_s, Nat.blt, Nat.ble, Bool.and_true, Bool.true_and, Bool.and_self, Int.cast_ofNat_Int, am_i_add, am_i_sub, am_i_mul, am_ok_i, am_i_cl, n_lt, n_le, n_eq, n_lt0, n_le0, n_0lt, n_0le, n_eq0, ne_eq, reduceIte, not_true_eq_false, not_false_eq_true, if_pos, if_neg, e_isIn, Int32.toInt_toInt64, am_i_toInt, am_l_toInt, Int.toNat_natCast, Int.reduceToNat, Int.reduceAdd, Int.reduceSub, Int.reduceMul, Int.reduceNeg, Nat.reduceAdd, Nat.reduceMul, Nat.add_zero, Nat.mul_zero, Nat.zero_add, am_zb0, am_zb1, h4, hch, e_xisBoat _ _ nb c I J R hx h4 hc hnb h, b01_f, sg_X11_isPlace_29]
theorem e_misPlace {b k : Int} {n : Nat} (hm : st_Rm R) (h0 : 0 ≤ b) (h1 : b < 6) (hn : I 96 (27 + 4 * b.toNat) = am_i n) (hn6 : n ≤ 6) (hk : -2147483648 ≤ k) (hk2 : k < 2147483648) : am_E (d + 2) 202 0 [(0, .ref 64), (1, .int (am_i b)), (2, .long (am_i k).toInt64)] [] (I, J, R, 138) = some (some (.int (b01 (0 ≤ k ∧ k < n))), (I, J, R, 138)) := by
  have hm' := hm
  unfold st_Rm at hm'
  rw [sg_X12_isPlace_0]
  by_cases q : 0 ≤ k ∧ k < n
  · simp (disch := first | assumption | omega) only [hm', ly_csm, ly_cam, ly_cf, ly_kd, ly_ln, Bool.cond_decide, cond_true, cond_false, am_bI_s, am_bV_s, am_bL_s, am_let_s, Nat.blt, Nat.ble, Bool.and_true, Bool.true_and, Bool.and_self, Int.cast_ofNat_Int, am_i_add, am_i_sub, am_i_mul, am_ok_i, am_i_cl, n_lt, n_le, n_eq, n_lt0, n_le0, n_0lt, n_0le, n_eq0, ne_eq, reduceIte, not_true_eq_false, not_false_eq_true, if_pos, if_neg, e_isIn, Int32.toInt_toInt64, am_i_toInt, am_l_toInt, Int.toNat_natCast, Int.reduceToNat, Int.reduceAdd, Int.reduceSub, Int.reduceMul, Int.reduceNeg, Nat.reduceAdd, Nat.reduceMul, Nat.add_zero, Nat.mul_zero, Nat.zero_add, am_zb0, am_zb1, e_noteMany, hn, b01_t]
  · simp (disch := first | assumption | omega) only [hm', ly_csm, ly_cam, ly_cf, ly_kd, ly_ln, Bool.cond_decide, cond_true, cond_false, am_bI_s, am_bV_s, am_bL_s, am_let_s, Nat.blt, Nat.ble, Bool.and_true, Bool.true_and, Bool.and_self, Int.cast_ofNat_Int, am_i_add, am_i_sub, am_i_mul, am_ok_i, am_i_cl, n_lt, n_le, n_eq, n_lt0, n_le0, n_0lt, n_0le, n_eq0, ne_eq, reduceIte, not_true_eq_false, not_false_eq_true, if_pos, if_neg, e_isIn, Int32.toInt_toInt64, am_i_toInt, am_l_toInt, Int.toNat_natCast, Int.reduceToNat, Int.reduceAdd, Int.reduceSub, Int.reduceMul, Int.reduceNeg, Nat.reduceAdd, Nat.reduceMul, Nat.add_zero, Nat.mul_zero, Nat.zero_add, am_zb0, am_zb1, e_noteMany, hn, b01_f]
end GET
section PGT
variable {L : Nat} {xs : Nat → Int32}
theorem p_score (d : Nat) (a1 a2 : Int32) : pr_I (vV restW L xs) (d + 3) 107 221 [(1, .int a1), (2, .int a2)] := by
  intro I J R hV
  have hV0 := hV
  obtain ⟨⟨h1, h2, hx, hm, hmu⟩, ht, hr, hf, hp, hs, hd, hw⟩ := hV
  obtain ⟨c, last, nb, nr, nw, wd, sq, K, nt, wf, fm, h4, hc, hB, hN, hF, ⟨h, s, ⟨hh, e66, g0, hbt⟩, ⟨ek, gk, hkp⟩, hKh⟩, hA, hX⟩ := hw
  obtain ⟨b1, b2, b3, b4, b5, b6, b7, b8, i0, m0, i1, m1, i2, m2, i3, m3, i4, m4, i5, m5, mS, mT, hnt, hky, hwf⟩ := hB
  have hx' := hx
  have hm' := hm
  unfold st_Rx at hx'
  unfold st_Rm at hm'
  have hch := ch_of hx hc
  unfold chR at hch
  obtain ⟨z, z1, z2, rfl⟩ := i32_z a1
  obtain ⟨w, w1, w2, rfl⟩ := i32_z a2
  have xB := fun d => e_xisPlace (d := d) (J := J) (a := z) (k := w) (n := nt z.toNat) hx h4 hc b3 i1 z1 z2 w1 w2 (fun q1 q2 => ⟨(hnt _ (by omega)).1, (hnt _ (by omega)).2.1⟩)
  have mB := fun d => e_misBoat d (am_i z) nb I J R hm b3 m1
  by_cases hq : (0 ≤ z ∧ z < nb) ∧ 0 ≤ w ∧ w < nt z.toNat
  · obtain ⟨n6, n1, n2⟩ := hnt z.toNat (by omega)
    obtain ⟨-, hb1, hb2⟩ := hbt z.toNat (by omega)
    have mP := fun d => e_misPlace (d := d) (J := J) (k := w) hm hq.1.1 (by omega) n2 n6 w1 w2
    have q1 := hb1.2.2.2.2.2 w.toNat (by omega)
    have q2 := hb2.2.2.2.2.2 w.toNat (by omega)
    have e1 : 11 * z.toNat + (5 + w).toNat = 11 * z.toNat + 5 + w.toNat := by omega
    have e2 : 6 + 11 * z.toNat + w.toNat = 1 + 11 * z.toNat + 5 + w.toNat := by omega
    refine ⟨am_i ((s z.toNat).sc w.toNat), I, J, R, I, J, R, ?_, rfl, rfl, ?_, hV0⟩
    · rw [sg_X11_score_0]
      simp (disch := first | assumption | omega) only [hx', ly_csx, ly_cax, ly_cf, ly_kd, ly_ln, Bool.cond_decide, cond_true, cond_false, am_bI_s, am_bV_s, am_bL_s, am_let_s, Nat.blt, Nat.ble, Bool.and_true, Bool.true_and, Bool.and_self, Int.cast_ofNat_Int, am_i_add, am_i_sub, am_i_mul, am_ok_i, am_i_cl, n_lt, n_le, n_eq, n_lt0, n_le0, n_0lt, n_0le, n_eq0, ne_eq, reduceIte, not_true_eq_false, not_false_eq_true, if_pos, if_neg, e_isIn, Int32.toInt_toInt64, am_i_toInt, am_l_toInt, Int.toNat_natCast, Int.reduceToNat, Int.reduceAdd, Int.reduceSub, Int.reduceMul, Int.reduceNeg, Nat.reduceAdd, Nat.reduceMul, Nat.add_zero, Nat.mul_zero, Nat.zero_add, am_zb0, am_zb1, h4, hch, xB, b01_t hq, e_slot, e1, q1]
    · rw [sg_X12_score_0]
      simp (disch := first | assumption | omega) only [hm', ly_csm, ly_cam, ly_cf, ly_kd, ly_ln, Bool.cond_decide, cond_true, cond_false, am_bI_s, am_bV_s, am_bL_s, am_let_s, Nat.blt, Nat.ble, Bool.and_true, Bool.true_and, Bool.and_self, Int.cast_ofNat_Int, am_i_add, am_i_sub, am_i_mul, am_ok_i, am_i_cl, n_lt, n_le, n_eq, n_lt0, n_le0, n_0lt, n_0le, n_eq0, ne_eq, reduceIte, not_true_eq_false, not_false_eq_true, if_pos, if_neg, e_isIn, Int32.toInt_toInt64, am_i_toInt, am_l_toInt, Int.toNat_natCast, Int.reduceToNat, Int.reduceAdd, Int.reduceSub, Int.reduceMul, Int.reduceNeg, Nat.reduceAdd, Nat.reduceMul, Nat.add_zero, Nat.mul_zero, Nat.zero_add, am_zb0, am_zb1, mB, mP, b01_t, e_noteOf, e2, q2]
  · refine ⟨am_i (-1), I, J, R, I, J, R, ?_, rfl, rfl, ?_, hV0⟩
    · rw [sg_X11_score_0]
      simp (disch := first | assumption | omega) only [hx', ly_csx, ly_cax, ly_cf, ly_kd, ly_ln, Bool.cond_decide, cond_true, cond_false, am_bI_s, am_bV_s, am_bL_s, am_let_s, Nat.blt, Nat.ble, Bool.and_true, Bool.true_and, Bool.and_self, Int.cast_ofNat_Int, am_i_add, am_i_sub, am_i_mul, am_ok_i, am_i_cl, n_lt, n_le, n_eq, n_lt0, n_le0, n_0lt, n_0le, n_eq0, ne_eq, reduceIte, not_true_eq_false, not_false_eq_true, if_pos, if_neg, e_isIn, Int32.toInt_toInt64, am_i_toInt, am_l_toInt, Int.toNat_natCast, Int.reduceToNat, Int.reduceAdd, Int.reduceSub, Int.reduceMul, Int.reduceNeg, Nat.reduceAdd, Nat.reduceMul, Nat.add_zero, Nat.mul_zero, Nat.zero_add, am_zb0, am_zb1, h4, hch, xB, b01_f hq]
    · rw [sg_X12_score_0]
      by_cases hq2 : 0 ≤ z ∧ z < nb
      · obtain ⟨n6, n1, n2⟩ := hnt z.toNat (by omega)
        have mP := fun d => e_misPlace (d := d) (J := J) (k := w) hm hq2.1 (by omega) n2 n6 w1 w2
        simp (disch := first | assumption | omega) only [hm', ly_csm, ly_cam, ly_cf, ly_kd, ly_ln, Bool.cond_decide, cond_true, cond_false, am_bI_s, am_bV_s, am_bL_s, am_let_s, Nat.blt, Nat.ble, Bool.and_true, Bool.true_and, Bool.and_self, Int.cast_ofNat_Int, am_i_add, am_i_sub, am_i_mul, am_ok_i, am_i_cl, n_lt, n_le, n_eq, n_lt0, n_le0, n_0lt, n_0le, n_eq0, ne_eq, reduceIte, not_true_eq_false, not_false_eq_true, if_pos, if_neg, e_isIn, Int32.toInt_toInt64, am_i_toInt, am_l_toInt, Int.toNat_natCast, Int.reduceToNat, Int.reduceAdd, Int.reduceSub, Int.reduceMul, Int.reduceNeg, Nat.reduceAdd, Nat.reduceMul, Nat.add_zero, Nat.mul_zero, Nat.zero_add, am_zb0, am_zb1, mB, mP, b01_t, b01_f, sg_X12_score_27]
      · simp (disch := first | assumption | omega) only [hm', ly_csm, ly_cam, ly_cf, ly_kd, ly_ln, Bool.cond_decide, cond_true, cond_false, am_bI_s, am_bV_s, am_bL_s, am_let_s, Nat.blt, Nat.ble, Bool.and_true, Bool.true_and, Bool.and_self, Int.cast_ofNat_Int, am_i_add, am_i_sub, am_i_mul, am_ok_i, am_i_cl, n_lt, n_le, n_eq, n_lt0, n_le0, n_0lt, n_0le, n_eq0, ne_eq, reduceIte, not_true_eq_false, not_false_eq_true, if_pos, if_neg, e_isIn, Int32.toInt_toInt64, am_i_toInt, am_l_toInt, Int.toNat_natCast, Int.reduceToNat, Int.reduceAdd, Int.reduceSub, Int.reduceMul, Int.reduceNeg, Nat.reduceAdd, Nat.reduceMul, Nat.add_zero, Nat.mul_zero, Nat.zero_add, am_zb0, am_zb1, mB, b01_f, sg_X12_score_27]
end PGT
