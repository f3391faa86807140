/-! ===== rides: the reference; the pair ===== -/
def cnF (f : Nat → Nat) : Nat → Nat → Nat
  | 0 => fun _ => 0
  | r + 1 => upT (cnF f r) (f r)
theorem cnF_b {f : Nat → Nat} {b : Nat} : ∀ r, cnF f r b ≤ r
  | 0 => Nat.le_refl _
  | r + 1 => by
    have := cnF_b (f := f) (b := b) r
    show cnF f r b + (if f r = b + 1 then 1 else 0) ≤ r + 1
    split <;> omega
theorem cdF_s {nb i : Nat} {f g : Nat → Nat} (e1 : ∀ k, k < i → g k = f k) (e2 : g i = f i + 1) : ∀ n, i < n → (∀ k, i < k → k < n → g k = 0 ∧ f k = nb) → cdF (nb + 1) g n = cdF (nb + 1) f n + 1
  | 0, h, _ => by omega
  | n + 1, h, hz => by
    show cdF (nb + 1) g n * (nb + 1) + g n = cdF (nb + 1) f n * (nb + 1) + f n + 1
    by_cases c : i = n
    · subst c
      rw [cdF_c i e1, e2]
      omega
    · obtain ⟨z1, z2⟩ := hz n (by omega) (by omega)
      rw [cdF_s e1 e2 n (by omega) (fun k k1 k2 => hz k k1 (by omega)), z1, z2, Nat.succ_mul]
      omega
section RIDM
variable {d : Nat} {J : tJ} {R : tR} {last nb n : Nat} {nt ky : Nat → Nat} {s : Nat → bt} {f : Nat → Nat}
theorem e_riders {I : tI} (hm : st_Rm R) (h94 : I 94 4 = am_i n) : am_E (d + 1) 193 0 [(0, .ref 64)] [] (I, J, R, 138) = some (some (.int (am_i n)), (I, J, R, 138)) := by
  rw [sg_X12_riderMany_0]
  simp (disch := first | assumption | omega) only [rM hm, ly_csm, ly_cam, ly_cf, ly_kd, ly_ln, ↓Bool.cond_decide, cond_true, cond_false, ↓bI_p, ↓bV_p, ↓bL_p, bIJ_s, bVJ_s, bLJ_s, ↓am_let_s, Nat.blt, Nat.ble, Bool.and_true, Bool.true_and, Bool.and_self, Int.cast_ofNat_Int, am_i_add, am_i_sub, am_i_mul, am_ok_i, am_i_cl, n_lt, n_le, n_eq, n_lt0, n_le0, n_0lt, n_0le, n_eq0, ne_eq, ↓reduceIte, not_true_eq_false, not_false_eq_true, and_true, true_and, and_false, false_and, eq_T, eq_F, lt_T, lt_F, le_T, le_F, qn_T, qn_F, and_F, b01_T, b01_F, e_isIn, Int32.toInt_toInt64, am_i_toInt, am_l_toInt, Int.toNat_natCast, Int.reduceToNat, Int.reduceAdd, Int.reduceSub, Int.reduceMul, Int.reduceNeg, Nat.reduceAdd, Nat.reduceMul, Nat.add_zero, Nat.mul_zero, Nat.zero_add, am_zb0, am_zb1, h94]
theorem m_cr12 {I : tI} {b r key k0 : Nat} {x : bt} (hm : st_Rm R) (hb : b < 6) (hr : r < 6) (hn : k0 ≤ 6) (hk8 : key < 8) (h98 : I 98 (6 + r) = am_i key) (h96 : I 96 (27 + 4 * b) = am_i k0) (hO : bOK last k0 x) (hB : bX (I 103) (1 + 11 * b) k0 x) : ∀ (m k : Nat), k + m = k0 → am_E (d + 2) 237 12 [(0, .ref 64), (1, .int (am_i r)), (2, .int (am_i b)), (3, .int (am_i k))] [] (I, J, R, 138) = some (some (.int (b01 (anK x.sc key m k = true))), (I, J, R, 138))
  | 0, k, hk => by
    have nm := fun d => e_nm (d := d) (J := J) (R := R) (I := I) (b := b) (nt := fun _ => k0) hm hb h96
    rw [sg_X12_canRide_12, b01_ff (show anK x.sc key 0 k = false from rfl)]
    simp (disch := first | assumption | omega) only [rM hm, ly_csm, ly_cam, ly_cf, ly_kd, ly_ln, ↓Bool.cond_decide, cond_true, cond_false, ↓bI_p, ↓bV_p, ↓bL_p, bIJ_s, bVJ_s, bLJ_s, ↓am_let_s, Nat.blt, Nat.ble, Bool.and_true, Bool.true_and, Bool.and_self, Int.cast_ofNat_Int, am_i_add, am_i_sub, am_i_mul, am_ok_i, am_i_cl, n_lt, n_le, n_eq, n_lt0, n_le0, n_0lt, n_0le, n_eq0, ne_eq, ↓reduceIte, not_true_eq_false, not_false_eq_true, and_true, true_and, and_false, false_and, eq_T, eq_F, lt_T, lt_F, le_T, le_F, qn_T, qn_F, and_F, b01_T, b01_F, e_isIn, Int32.toInt_toInt64, am_i_toInt, am_l_toInt, Int.toNat_natCast, Int.reduceToNat, Int.reduceAdd, Int.reduceSub, Int.reduceMul, Int.reduceNeg, Nat.reduceAdd, Nat.reduceMul, Nat.add_zero, Nat.mul_zero, Nat.zero_add, am_zb0, am_zb1, nm]
  | m + 1, k, hk => by
    have nm := fun d => e_nm (d := d) (J := J) (R := R) (I := I) (b := b) (nt := fun _ => k0) hm hb h96
    have no : ∀ d, am_E (d + 1) 200 0 [(0, .ref 64), (1, .int (am_i b)), (2, .int (am_i k))] [] (I, J, R, 138) = some (some (.int (am_i (x.sc k))), (I, J, R, 138)) := fun d => by
      rw [e_noteOf hm (by omega) (by omega) (by omega) (by omega), Int.toNat_natCast, Int.toNat_natCast]
      have := hB.2.2.2.2.2 k (by omega)
      rw [show 1 + 11 * b + 5 + k = 6 + 11 * b + k by omega] at this
      rw [this]
    have s8 := hO.2.2.2.2.2.2 k (by omega)
    have er : ((6 : Int) + (r : Int)).toNat = 6 + r := by omega
    rw [sg_X12_canRide_12]
    by_cases q : x.sc k = key
    · rw [b01_tt (show anK x.sc key (m + 1) k = true from if_pos q)]
      simp (disch := first | assumption | omega) only [rM hm, ly_csm, ly_cam, ly_cf, ly_kd, ly_ln, ↓Bool.cond_decide, cond_true, cond_false, ↓bI_p, ↓bV_p, ↓bL_p, bIJ_s, bVJ_s, bLJ_s, ↓am_let_s, Nat.blt, Nat.ble, Bool.and_true, Bool.true_and, Bool.and_self, Int.cast_ofNat_Int, am_i_add, am_i_sub, am_i_mul, am_ok_i, am_i_cl, n_lt, n_le, n_eq, n_lt0, n_le0, n_0lt, n_0le, n_eq0, ne_eq, ↓reduceIte, not_true_eq_false, not_false_eq_true, and_true, true_and, and_false, false_and, eq_T, eq_F, lt_T, lt_F, le_T, le_F, qn_T, qn_F, and_F, b01_T, b01_F, e_isIn, Int32.toInt_toInt64, am_i_toInt, am_l_toInt, Int.toNat_natCast, Int.reduceToNat, Int.reduceAdd, Int.reduceSub, Int.reduceMul, Int.reduceNeg, Nat.reduceAdd, Nat.reduceMul, Nat.add_zero, Nat.mul_zero, Nat.zero_add, am_zb0, am_zb1, nm, no, er, h98]
    · have ih := m_cr12 hm hb hr hn hk8 h98 h96 hO hB m (k + 1) (by omega)
      rw [show anK x.sc key (m + 1) k = anK x.sc key m (k + 1) from if_neg q]
      simp (disch := first | assumption | omega) only [rM hm, ly_csm, ly_cam, ly_cf, ly_kd, ly_ln, ↓Bool.cond_decide, cond_true, cond_false, ↓bI_p, ↓bV_p, ↓bL_p, bIJ_s, bVJ_s, bLJ_s, ↓am_let_s, Nat.blt, Nat.ble, Bool.and_true, Bool.true_and, Bool.and_self, Int.cast_ofNat_Int, am_i_add, am_i_sub, am_i_mul, am_ok_i, am_i_cl, n_lt, n_le, n_eq, n_lt0, n_le0, n_0lt, n_0le, n_eq0, ne_eq, ↓reduceIte, not_true_eq_false, not_false_eq_true, and_true, true_and, and_false, false_and, eq_T, eq_F, lt_T, lt_F, le_T, le_F, qn_T, qn_F, and_F, b01_T, b01_F, e_isIn, Int32.toInt_toInt64, am_i_toInt, am_l_toInt, Int.toNat_natCast, Int.reduceToNat, Int.reduceAdd, Int.reduceSub, Int.reduceMul, Int.reduceNeg, Nat.reduceAdd, Nat.reduceMul, Nat.add_zero, Nat.mul_zero, Nat.zero_add, am_zb0, am_zb1, nm, no, er, h98, am_i_s, ih]
theorem m_canRide {I : tI} {b r key k0 : Nat} {x : bt} (hm : st_Rm R) (hl : last ≤ 60) (hb : b < 6) (hr : r < 6) (hn : k0 ≤ 6) (hk8 : key < 8) (h93 : I 93 3 = am_i last) (h98 : I 98 (6 + r) = am_i key) (h96 : I 96 (27 + 4 * b) = am_i k0) (hO : bOK last k0 x) (hB : bX (I 103) (1 + 11 * b) k0 x) : am_E (d + 4) 237 0 [(0, .ref 64), (1, .int (am_i r)), (2, .int (am_i b))] [] (I, J, R, 138) = some (some (.int (b01 (crS last k0 x key = true))), (I, J, R, 138)) := by
  obtain ⟨y1, y2, y3, y4, y5, y6⟩ := bX_i.mp hB
  have ou := fun d => m_isOut (d := d) (J := J) (I := I) (b := b) (mi := x.mi) (su := x.su) hm hb hl (by have := hO.1; omega) hO.2.2.2.1 y1 y4 h93
  have lp : am_E (d + 4) 237 12 [(0, .ref 64), (1, .int (am_i r)), (2, .int (am_i b)), (3, .int (am_i 0))] [] (I, J, R, 138) = _ := m_cr12 (d := d + 2) (J := J) (R := R) hm hb hr hn hk8 h98 h96 hO hB k0 0 (by omega)
  rw [sg_X12_canRide_0]
  by_cases q : x.su = 0 ∧ x.mi ≠ last
  · rw [show crS last k0 x key = anK x.sc key k0 0 from if_pos q]
    simp (disch := first | assumption | omega) only [rM hm, ly_csm, ly_cam, ly_cf, ly_kd, ly_ln, ↓Bool.cond_decide, cond_true, cond_false, ↓bI_p, ↓bV_p, ↓bL_p, bIJ_s, bVJ_s, bLJ_s, ↓am_let_s, Nat.blt, Nat.ble, Bool.and_true, Bool.true_and, Bool.and_self, Int.cast_ofNat_Int, am_i_add, am_i_sub, am_i_mul, am_ok_i, am_i_cl, n_lt, n_le, n_eq, n_lt0, n_le0, n_0lt, n_0le, n_eq0, ne_eq, ↓reduceIte, not_true_eq_false, not_false_eq_true, and_true, true_and, and_false, false_and, eq_T, eq_F, lt_T, lt_F, le_T, le_F, qn_T, qn_F, and_F, b01_T, b01_F, e_isIn, Int32.toInt_toInt64, am_i_toInt, am_l_toInt, Int.toNat_natCast, Int.reduceToNat, Int.reduceAdd, Int.reduceSub, Int.reduceMul, Int.reduceNeg, Nat.reduceAdd, Nat.reduceMul, Nat.add_zero, Nat.mul_zero, Nat.zero_add, am_zb0, am_zb1, ou, b01_t q, lp]
  · rw [b01_ff (show crS last k0 x key = false from if_neg q)]
    simp (disch := first | assumption | omega) only [rM hm, ly_csm, ly_cam, ly_cf, ly_kd, ly_ln, ↓Bool.cond_decide, cond_true, cond_false, ↓bI_p, ↓bV_p, ↓bL_p, bIJ_s, bVJ_s, bLJ_s, ↓am_let_s, Nat.blt, Nat.ble, Bool.and_true, Bool.true_and, Bool.and_self, Int.cast_ofNat_Int, am_i_add, am_i_sub, am_i_mul, am_ok_i, am_i_cl, n_lt, n_le, n_eq, n_lt0, n_le0, n_0lt, n_0le, n_eq0, ne_eq, ↓reduceIte, not_true_eq_false, not_false_eq_true, and_true, true_and, and_false, false_and, eq_T, eq_F, lt_T, lt_F, le_T, le_F, qn_T, qn_F, and_F, b01_T, b01_F, e_isIn, Int32.toInt_toInt64, am_i_toInt, am_l_toInt, Int.toNat_natCast, Int.reduceToNat, Int.reduceAdd, Int.reduceSub, Int.reduceMul, Int.reduceNeg, Nat.reduceAdd, Nat.reduceMul, Nat.add_zero, Nat.mul_zero, Nat.zero_add, am_zb0, am_zb1, ou, b01_f q]
theorem m_rd50 {I : tI} {r a : Nat} (hm : st_Rm R) (hr : r < 6) (ha : a ≤ 6) (hf : ∀ k, k ≤ r → f k ≤ 6 ∧ I 107 k = am_i (f k)) (h0 : f r ≠ 0) : ∀ (m k : Nat), k + m = r + 1 → am_E (d + 1) 238 50 [(0, .ref 64), (1, .int (am_i a)), (2, .int (am_i r)), (3, .int (am_i (cnF f k (f r - 1)))), (4, .int (am_i k))] [] (I, J, R, 138) = if cnF f r (f r - 1) < 2 then am_E (d + 1) 238 88 [(0, .ref 64), (1, .int (am_i a)), (2, .int (am_i r))] [] (I, J, R, 138) else some (some (.int (am_i (-1))), (I, J, R, 138))
  | 0, k, hk => by
    have : k = r + 1 := by omega
    subst this
    have e : cnF f (r + 1) (f r - 1) = cnF f r (f r - 1) + 1 := by
      show cnF f r (f r - 1) + (if f r = f r - 1 + 1 then 1 else 0) = _
      rw [if_pos (by omega)]
    have cb := cnF_b (f := f) (b := f r - 1) r
    rw [sg_X12_ridden_50, e]
    generalize cnF f r (f r - 1) = C at *
    by_cases q : C < 2
    · rw [if_pos q]
      simp (disch := first | assumption | omega) only [rM hm, ly_csm, ly_cam, ly_cf, ly_kd, ly_ln, ↓Bool.cond_decide, cond_true, cond_false, ↓bI_p, ↓bV_p, ↓bL_p, bIJ_s, bVJ_s, bLJ_s, ↓am_let_s, Nat.blt, Nat.ble, Bool.and_true, Bool.true_and, Bool.and_self, Int.cast_ofNat_Int, am_i_add, am_i_sub, am_i_mul, am_ok_i, am_i_cl, n_lt, n_le, n_eq, n_lt0, n_le0, n_0lt, n_0le, n_eq0, ne_eq, ↓reduceIte, not_true_eq_false, not_false_eq_true, and_true, true_and, and_false, false_and, eq_T, eq_F, lt_T, lt_F, le_T, le_F, qn_T, qn_F, and_F, b01_T, b01_F, e_isIn, Int32.toInt_toInt64, am_i_toInt, am_l_toInt, Int.toNat_natCast, Int.reduceToNat, Int.reduceAdd, Int.reduceSub, Int.reduceMul, Int.reduceNeg, Nat.reduceAdd, Nat.reduceMul, Nat.add_zero, Nat.mul_zero, Nat.zero_add, am_zb0, am_zb1]
    · rw [if_neg q]
      simp (disch := first | assumption | omega) only [rM hm, ly_csm, ly_cam, ly_cf, ly_kd, ly_ln, ↓Bool.cond_decide, cond_true, cond_false, ↓bI_p, ↓bV_p, ↓bL_p, bIJ_s, bVJ_s, bLJ_s, ↓am_let_s, Nat.blt, Nat.ble, Bool.and_true, Bool.true_and, Bool.and_self, Int.cast_ofNat_Int, am_i_add, am_i_sub, am_i_mul, am_ok_i, am_i_cl, n_lt, n_le, n_eq, n_lt0, n_le0, n_0lt, n_0le, n_eq0, ne_eq, ↓reduceIte, not_true_eq_false, not_false_eq_true, and_true, true_and, and_false, false_and, eq_T, eq_F, lt_T, lt_F, le_T, le_F, qn_T, qn_F, and_F, b01_T, b01_F, e_isIn, Int32.toInt_toInt64, am_i_toInt, am_l_toInt, Int.toNat_natCast, Int.reduceToNat, Int.reduceAdd, Int.reduceSub, Int.reduceMul, Int.reduceNeg, Nat.reduceAdd, Nat.reduceMul, Nat.add_zero, Nat.mul_zero, Nat.zero_add, am_zb0, am_zb1]
  | m + 1, k, hk => by
    have ih := m_rd50 hm hr ha hf h0 m (k + 1) (by omega)
    obtain ⟨f1, f2⟩ := hf k (by omega)
    obtain ⟨f3, f4⟩ := hf r (by omega)
    have e : cnF f (k + 1) (f r - 1) = cnF f k (f r - 1) + (if f k = f r then 1 else 0) := by
      show cnF f k (f r - 1) + (if f k = f r - 1 + 1 then 1 else 0) = _
      rw [show f r - 1 + 1 = f r by omega]
    have cb := cnF_b (f := f) (b := f r - 1) k
    rw [← ih, e, sg_X12_ridden_50]
    generalize cnF f k (f r - 1) = C at *
    by_cases q : f k = f r
    · rw [if_pos q]
      simp (disch := first | assumption | omega) only [rM hm, ly_csm, ly_cam, ly_cf, ly_kd, ly_ln, ↓Bool.cond_decide, cond_true, cond_false, ↓bI_p, ↓bV_p, ↓bL_p, bIJ_s, bVJ_s, bLJ_s, ↓am_let_s, Nat.blt, Nat.ble, Bool.and_true, Bool.true_and, Bool.and_self, Int.cast_ofNat_Int, am_i_add, am_i_sub, am_i_mul, am_ok_i, am_i_cl, n_lt, n_le, n_eq, n_lt0, n_le0, n_0lt, n_0le, n_eq0, ne_eq, ↓reduceIte, not_true_eq_false, not_false_eq_true, and_true, true_and, and_false, false_and, eq_T, eq_F, lt_T, lt_F, le_T, le_F, qn_T, qn_F, and_F, b01_T, b01_F, e_isIn, Int32.toInt_toInt64, am_i_toInt, am_l_toInt, Int.toNat_natCast, Int.reduceToNat, Int.reduceAdd, Int.reduceSub, Int.reduceMul, Int.reduceNeg, Nat.reduceAdd, Nat.reduceMul, Nat.add_zero, Nat.mul_zero, Nat.zero_add, am_zb0, am_zb1, f2, f4, sg_X12_ridden_75, am_i_s]
    · rw [if_neg q, Nat.add_zero]
      simp (disch := first | assumption | omega) only [rM hm, ly_csm, ly_cam, ly_cf, ly_kd, ly_ln, ↓Bool.cond_decide, cond_true, cond_false, ↓bI_p, ↓bV_p, ↓bL_p, bIJ_s, bVJ_s, bLJ_s, ↓am_let_s, Nat.blt, Nat.ble, Bool.and_true, Bool.true_and, Bool.and_self, Int.cast_ofNat_Int, am_i_add, am_i_sub, am_i_mul, am_ok_i, am_i_cl, n_lt, n_le, n_eq, n_lt0, n_le0, n_0lt, n_0le, n_eq0, ne_eq, ↓reduceIte, not_true_eq_false, not_false_eq_true, and_true, true_and, and_false, false_and, eq_T, eq_F, lt_T, lt_F, le_T, le_F, qn_T, qn_F, and_F, b01_T, b01_F, e_isIn, Int32.toInt_toInt64, am_i_toInt, am_l_toInt, Int.toNat_natCast, Int.reduceToNat, Int.reduceAdd, Int.reduceSub, Int.reduceMul, Int.reduceNeg, Nat.reduceAdd, Nat.reduceMul, Nat.add_zero, Nat.mul_zero, Nat.zero_add, am_zb0, am_zb1, f2, f4, sg_X12_ridden_75, am_i_s]
/-- what both hold the row against -/
def ftS (last nb : Nat) (nt : Nat → Nat) (s : Nat → bt) (ky : Nat → Nat) (r b : Nat) : Bool := decide (b < nb) && crS last (nt b) (s b) (ky r)
def ridM (last nb n : Nat) (nt ky : Nat → Nat) (s : Nat → bt) (I : tI) : Prop := last ≤ 60 ∧ nb ≤ 6 ∧ n ≤ 6 ∧ I 93 3 = am_i last ∧ I 94 3 = am_i nb ∧ I 94 4 = am_i n ∧ (∀ r, r < n → ky r < 8 ∧ I 98 (6 + r) = am_i (ky r)) ∧ ∀ b, b < nb → nt b ≤ 6 ∧ I 96 (27 + 4 * b) = am_i (nt b) ∧ bOK last (nt b) (s b) ∧ bX (I 103) (1 + 11 * b) (nt b) (s b)
theorem ridM_c {I I' : tI} (h : ridM last nb n nt ky s I) (e : ∀ q k, q ≠ 107 → I' q k = I q k) : ridM last nb n nt ky s I' := by
  obtain ⟨h1, h2, h3, h4, h5, h6, h7, h8⟩ := h
  refine ⟨h1, h2, h3, by rw [e _ _ (by omega)]; exact h4, by rw [e _ _ (by omega)]; exact h5, by rw [e _ _ (by omega)]; exact h6, fun r hr => ⟨(h7 r hr).1, by rw [e _ _ (by omega)]; exact (h7 r hr).2⟩, fun b hb => ?_⟩
  obtain ⟨a, b1, c, y0, y1, y2, y3, y4, y5⟩ := h8 b hb
  exact ⟨a, by rw [e _ _ (by omega)]; exact b1, c, by rw [e _ _ (by omega)]; exact y0, by rw [e _ _ (by omega)]; exact y1, by rw [e _ _ (by omega)]; exact y2, by rw [e _ _ (by omega)]; exact y3, by rw [e _ _ (by omega)]; exact y4, fun k hk => by rw [e _ _ (by omega)]; exact y5 k hk⟩
theorem m_rd4 {I : tI} (hm : st_Rm R) (hI : ridM last nb n nt ky s I) (hf : ∀ k, k < n → f k ≤ nb ∧ I 107 k = am_i (f k)) : ∀ (m r a : Nat), r + m = n → a ≤ r → am_E (d + 5) 238 4 [(0, .ref 64), (1, .int (am_i a)), (2, .int (am_i r))] [] (I, J, R, 138) = some (some (.int (am_i (if vF (ftS last nb nt s ky) f m r (cnF f r) = -1 then -1 else (a : Int) + vF (ftS last nb nt s ky) f m r (cnF f r)))), (I, J, R, 138))
  | 0, r, a, hr, ha => by
    obtain ⟨h1, h2, h3, h4, h5, h6, h7, h8⟩ := hI
    have eR := fun d => e_riders (d := d) (J := J) (I := I) (n := n) hm h6
    have e0 : (if vF (ftS last nb nt s ky) f 0 r (cnF f r) = -1 then -1 else (a : Int) + vF (ftS last nb nt s ky) f 0 r (cnF f r)) = a := by
      show (if (0 : Int) = -1 then -1 else (a : Int) + 0) = a
      rw [if_neg (by decide)]
      omega
    rw [sg_X12_ridden_4, e0]
    simp (disch := first | assumption | omega) only [rM hm, ly_csm, ly_cam, ly_cf, ly_kd, ly_ln, ↓Bool.cond_decide, cond_true, cond_false, ↓bI_p, ↓bV_p, ↓bL_p, bIJ_s, bVJ_s, bLJ_s, ↓am_let_s, Nat.blt, Nat.ble, Bool.and_true, Bool.true_and, Bool.and_self, Int.cast_ofNat_Int, am_i_add, am_i_sub, am_i_mul, am_ok_i, am_i_cl, n_lt, n_le, n_eq, n_lt0, n_le0, n_0lt, n_0le, n_eq0, ne_eq, ↓reduceIte, not_true_eq_false, not_false_eq_true, and_true, true_and, and_false, false_and, eq_T, eq_F, lt_T, lt_F, le_T, le_F, qn_T, qn_F, and_F, b01_T, b01_F, e_isIn, Int32.toInt_toInt64, am_i_toInt, am_l_toInt, Int.toNat_natCast, Int.reduceToNat, Int.reduceAdd, Int.reduceSub, Int.reduceMul, Int.reduceNeg, Nat.reduceAdd, Nat.reduceMul, Nat.add_zero, Nat.mul_zero, Nat.zero_add, am_zb0, am_zb1, eR]
  | m + 1, r, a, hr, ha => by
    have hI' := hI
    obtain ⟨h1, h2, h3, h4, h5, h6, h7, h8⟩ := hI'
    have eR := fun d => e_riders (d := d) (J := J) (I := I) (n := n) hm h6
    obtain ⟨f1, f2⟩ := hf r (by omega)
    have vb := vF_b (fit := ftS last nb nt s ky) (f := f) m (r + 1) (cnF f (r + 1))
    have e88 : ∀ a' : Nat, a' ≤ r + 1 → am_E (d + 5) 238 88 [(0, .ref 64), (1, .int (am_i a')), (2, .int (am_i r))] [] (I, J, R, 138) = some (some (.int (am_i (if vF (ftS last nb nt s ky) f m (r + 1) (cnF f (r + 1)) = -1 then -1 else (a' : Int) + vF (ftS last nb nt s ky) f m (r + 1) (cnF f (r + 1))))), (I, J, R, 138)) := fun a' ha' => by
      have ih := m_rd4 hm hI hf m (r + 1) a' (by omega) ha'
      rw [← ih, sg_X12_ridden_88]
      simp (disch := first | assumption | omega) only [↓Bool.cond_decide, cond_true, cond_false, ↓am_let_s, ↓bI_p, bIJ_s, ↓bV_p, bVJ_s, ↓bL_p, bLJ_s, ly_cf, Bool.and_self, Bool.and_true, am_i_add, am_i_sub, am_i_mul, am_ok_i, am_i_cl, n_lt, n_le, n_eq, n_lt0, n_le0, n_0lt, n_0le, n_eq0, ne_eq, ↓reduceIte, not_true_eq_false, not_false_eq_true, and_true, true_and, and_false, false_and, eq_T, eq_F, lt_T, lt_F, le_T, le_F, qn_T, qn_F, and_F, b01_T, b01_F, e_isIn, Int32.toInt_toInt64, am_i_toInt, am_l_toInt, Int.toNat_natCast, Int.reduceToNat, Int.reduceAdd, Int.reduceSub, Int.reduceMul, Int.reduceNeg, Nat.reduceAdd, Nat.reduceMul, Nat.add_zero, Nat.mul_zero, Nat.zero_add, am_zb0, am_zb1, am_i_s]
    have ev : vF (ftS last nb nt s ky) f (m + 1) r (cnF f r) = if f r = 0 then vF (ftS last nb nt s ky) f m (r + 1) (cnF f (r + 1)) else if ftS last nb nt s ky r (f r - 1) = true ∧ cnF f r (f r - 1) < 2 then (if vF (ftS last nb nt s ky) f m (r + 1) (cnF f (r + 1)) = -1 then -1 else vF (ftS last nb nt s ky) f m (r + 1) (cnF f (r + 1)) + 1) else -1 := rfl
    rw [ev, sg_X12_ridden_4]
    generalize vF (ftS last nb nt s ky) f m (r + 1) (cnF f (r + 1)) = V at *
    by_cases q : f r = 0
    · have e := e88 a (by omega)
      rw [if_pos q]
      simp (disch := first | assumption | omega) only [rM hm, ly_csm, ly_cam, ly_cf, ly_kd, ly_ln, ↓Bool.cond_decide, cond_true, cond_false, ↓bI_p, ↓bV_p, ↓bL_p, bIJ_s, bVJ_s, bLJ_s, ↓am_let_s, Nat.blt, Nat.ble, Bool.and_true, Bool.true_and, Bool.and_self, Int.cast_ofNat_Int, am_i_add, am_i_sub, am_i_mul, am_ok_i, am_i_cl, n_lt, n_le, n_eq, n_lt0, n_le0, n_0lt, n_0le, n_eq0, ne_eq, ↓reduceIte, not_true_eq_false, not_false_eq_true, and_true, true_and, and_false, false_and, eq_T, eq_F, lt_T, lt_F, le_T, le_F, qn_T, qn_F, and_F, b01_T, b01_F, e_isIn, Int32.toInt_toInt64, am_i_toInt, am_l_toInt, Int.toNat_natCast, Int.reduceToNat, Int.reduceAdd, Int.reduceSub, Int.reduceMul, Int.reduceNeg, Nat.reduceAdd, Nat.reduceMul, Nat.add_zero, Nat.mul_zero, Nat.zero_add, am_zb0, am_zb1, eR, f2, e]
    · rw [if_neg q]
      obtain ⟨k1, k2⟩ := h7 r (by omega)
      obtain ⟨n6, n96, hO, hB⟩ := h8 (f r - 1) (by omega)
      have cr := fun d => m_canRide (d := d) (J := J) (R := R) (I := I) (b := f r - 1) (r := r) (key := ky r) (k0 := nt (f r - 1)) (x := s (f r - 1)) hm h1 (by omega) (by omega) n6 k1 h4 k2 n96 hO hB
      have ef : am_i ((f r : Int) - 1) = am_i ((f r - 1 : Nat) : Int) := by congr 1; omega
      have eft : ftS last nb nt s ky r (f r - 1) = crS last (nt (f r - 1)) (s (f r - 1)) (ky r) := by
        unfold ftS
        rw [decide_eq_true (by omega), Bool.true_and]
      rw [eft]
      by_cases q1 : crS last (nt (f r - 1)) (s (f r - 1)) (ky r) = true
      · have r50 : am_E (d + 5) 238 50 [(0, .ref 64), (1, .int (am_i (a + 1 : Nat))), (2, .int (am_i r)), (3, .int (am_i 0)), (4, .int (am_i 0))] [] (I, J, R, 138) = _ := m_rd50 (d := d + 4) (J := J) (R := R) (I := I) (r := r) (a := a + 1) (f := f) hm (by omega) (by omega) (fun k hk => ⟨by have := (hf k (by omega)).1; omega, (hf k (by omega)).2⟩) q (r + 1) 0 (by omega)
        by_cases q2 : cnF f r (f r - 1) < 2
        · have e := e88 (a + 1) (by omega)
          rw [if_pos q2] at r50
          have eW : (if crS last (nt (f r - 1)) (s (f r - 1)) (ky r) = true ∧ cnF f r (f r - 1) < 2 then (if V = -1 then (-1 : Int) else V + 1) else -1) = (if V = -1 then -1 else V + 1) := if_pos ⟨q1, q2⟩
          have eV : (if V = -1 then (-1 : Int) else ((a + 1 : Nat) : Int) + V) = (if (if V = -1 then (-1 : Int) else V + 1) = -1 then -1 else (a : Int) + (if V = -1 then (-1 : Int) else V + 1)) := by
            by_cases c : V = -1
            · rw [if_pos c, if_pos c, if_pos rfl]
            · rw [if_neg c, if_neg c, if_neg (by omega)]
              omega
          rw [eW, ← eV]
          simp (disch := first | assumption | omega) only [rM hm, ly_csm, ly_cam, ly_cf, ly_kd, ly_ln, ↓Bool.cond_decide, cond_true, cond_false, ↓bI_p, ↓bV_p, ↓bL_p, bIJ_s, bVJ_s, bLJ_s, ↓am_let_s, Nat.blt, Nat.ble, Bool.and_true, Bool.true_and, Bool.and_self, Int.cast_ofNat_Int, am_i_add, am_i_sub, am_i_mul, am_ok_i, am_i_cl, n_lt, n_le, n_eq, n_lt0, n_le0, n_0lt, n_0le, n_eq0, ne_eq, ↓reduceIte, not_true_eq_false, not_false_eq_true, and_true, true_and, and_false, false_and, eq_T, eq_F, lt_T, lt_F, le_T, le_F, qn_T, qn_F, and_F, b01_T, b01_F, e_isIn, Int32.toInt_toInt64, am_i_toInt, am_l_toInt, Int.toNat_natCast, Int.reduceToNat, Int.reduceAdd, Int.reduceSub, Int.reduceMul, Int.reduceNeg, Nat.reduceAdd, Nat.reduceMul, Nat.add_zero, Nat.mul_zero, Nat.zero_add, am_zb0, am_zb1, eR, f2, ef, cr, b01_t q1, am_i_s, r50, e]
        · rw [if_neg q2] at r50
          have eW : (if crS last (nt (f r - 1)) (s (f r - 1)) (ky r) = true ∧ cnF f r (f r - 1) < 2 then (if V = -1 then (-1 : Int) else V + 1) else -1) = -1 := if_neg (fun e => q2 e.2)
          rw [eW, if_pos rfl]
          simp (disch := first | assumption | omega) only [rM hm, ly_csm, ly_cam, ly_cf, ly_kd, ly_ln, ↓Bool.cond_decide, cond_true, cond_false, ↓bI_p, ↓bV_p, ↓bL_p, bIJ_s, bVJ_s, bLJ_s, ↓am_let_s, Nat.blt, Nat.ble, Bool.and_true, Bool.true_and, Bool.and_self, Int.cast_ofNat_Int, am_i_add, am_i_sub, am_i_mul, am_ok_i, am_i_cl, n_lt, n_le, n_eq, n_lt0, n_le0, n_0lt, n_0le, n_eq0, ne_eq, ↓reduceIte, not_true_eq_false, not_false_eq_true, and_true, true_and, and_false, false_and, eq_T, eq_F, lt_T, lt_F, le_T, le_F, qn_T, qn_F, and_F, b01_T, b01_F, e_isIn, Int32.toInt_toInt64, am_i_toInt, am_l_toInt, Int.toNat_natCast, Int.reduceToNat, Int.reduceAdd, Int.reduceSub, Int.reduceMul, Int.reduceNeg, Nat.reduceAdd, Nat.reduceMul, Nat.add_zero, Nat.mul_zero, Nat.zero_add, am_zb0, am_zb1, eR, f2, ef, cr, b01_t q1, am_i_s, r50]
      · have eW : (if crS last (nt (f r - 1)) (s (f r - 1)) (ky r) = true ∧ cnF f r (f r - 1) < 2 then (if V = -1 then (-1 : Int) else V + 1) else -1) = -1 := if_neg (fun e => q1 e.1)
        rw [eW, if_pos rfl]
        simp (disch := first | assumption | omega) only [rM hm, ly_csm, ly_cam, ly_cf, ly_kd, ly_ln, ↓Bool.cond_decide, cond_true, cond_false, ↓bI_p, ↓bV_p, ↓bL_p, bIJ_s, bVJ_s, bLJ_s, ↓am_let_s, Nat.blt, Nat.ble, Bool.and_true, Bool.true_and, Bool.and_self, Int.cast_ofNat_Int, am_i_add, am_i_sub, am_i_mul, am_ok_i, am_i_cl, n_lt, n_le, n_eq, n_lt0, n_le0, n_0lt, n_0le, n_eq0, ne_eq, ↓reduceIte, not_true_eq_false, not_false_eq_true, and_true, true_and, and_false, false_and, eq_T, eq_F, lt_T, lt_F, le_T, le_F, qn_T, qn_F, and_F, b01_T, b01_F, e_isIn, Int32.toInt_toInt64, am_i_toInt, am_l_toInt, Int.toNat_natCast, Int.reduceToNat, Int.reduceAdd, Int.reduceSub, Int.reduceMul, Int.reduceNeg, Nat.reduceAdd, Nat.reduceMul, Nat.add_zero, Nat.mul_zero, Nat.zero_add, am_zb0, am_zb1, eR, f2, ef, cr, b01_f q1]
theorem m_nx4 {I0 : tI} {fo : Nat → Nat} (hm : st_Rm R) (hn : n ≤ 6) (hnb : nb ≤ 8) (hfo : ∀ k, k < n → fo k ≤ nb) : ∀ (k : Nat) (I : tI), k ≤ n → (∀ q j, q ≠ 107 → I q j = I0 q j) → (∀ j, j < k → I 107 j = am_i (fo j)) → (∀ j, k ≤ j → j < n → fo j = nb ∧ I 107 j = am_i 0) → ∃ I', (∀ q j, q ≠ 107 → I' q j = I0 q j) ∧ ((am_E (d + 1) 231 4 [(0, .ref 64), (2, .int (am_i nb)), (3, .int (am_i ((k : Int) - 1)))] [] (I, J, R, 138) = some (some (.int (am_i 0)), (I', J, R, 138)) ∧ ∀ j, j < n → fo j = nb) ∨ (am_E (d + 1) 231 4 [(0, .ref 64), (2, .int (am_i nb)), (3, .int (am_i ((k : Int) - 1)))] [] (I, J, R, 138) = some (some (.int (am_i 1)), (I', J, R, 138)) ∧ ∃ g : Nat → Nat, (∀ j, j < n → g j ≤ nb ∧ I' 107 j = am_i (g j)) ∧ cdF (nb + 1) g n = cdF (nb + 1) fo n + 1))
  | 0, I, hk, hI, h1, h2 => by
    refine ⟨I, hI, Or.inl ⟨?_, fun j hj => (h2 j (by omega) hj).1⟩⟩
    have ek : (((0 : Nat) : Int) - 1) = -1 := rfl
    rw [sg_X12_isNextRow_4, ek]
    simp (disch := first | assumption | omega) only [rM hm, ly_csm, ly_cam, ly_cf, ly_kd, ly_ln, ↓Bool.cond_decide, cond_true, cond_false, ↓bI_p, ↓bV_p, ↓bL_p, bIJ_s, bVJ_s, bLJ_s, ↓am_let_s, Nat.blt, Nat.ble, Bool.and_true, Bool.true_and, Bool.and_self, Int.cast_ofNat_Int, am_i_add, am_i_sub, am_i_mul, am_ok_i, am_i_cl, n_lt, n_le, n_eq, n_lt0, n_le0, n_0lt, n_0le, n_eq0, ne_eq, ↓reduceIte, not_true_eq_false, not_false_eq_true, and_true, true_and, and_false, false_and, eq_T, eq_F, lt_T, lt_F, le_T, le_F, qn_T, qn_F, and_F, b01_T, b01_F, e_isIn, Int32.toInt_toInt64, am_i_toInt, am_l_toInt, Int.toNat_natCast, Int.reduceToNat, Int.reduceAdd, Int.reduceSub, Int.reduceMul, Int.reduceNeg, Nat.reduceAdd, Nat.reduceMul, Nat.add_zero, Nat.mul_zero, Nat.zero_add, am_zb0, am_zb1, sg_X12_isNextRow_31]
  | k + 1, I, hk, hI, h1, h2 => by
    have ek : (((k + 1 : Nat) : Int) - 1) = (k : Int) := by omega
    have em : (k : Int) + -1 = (k : Int) - 1 := by omega
    have e7 := h1 k (by omega)
    have fk := hfo k (by omega)
    by_cases q : fo k = nb
    · obtain ⟨I', p1, p2⟩ := m_nx4 (I0 := I0) hm hn hnb hfo k (am_up I 107 k (am_i 0)) (by omega) (fun q j e => by rw [am_up_o (by omega)]; exact hI q j e) (fun j hj => by rw [am_up_o (by omega)]; exact h1 j (by omega)) (fun j j1 j2 => by
        by_cases c : j = k
        · rw [c, am_up_e]; exact ⟨q, rfl⟩
        · rw [am_up_o (by omega)]; exact h2 j (by omega) j2)
      refine ⟨I', p1, ?_⟩
      have ee : am_E (d + 1) 231 4 [(0, .ref 64), (2, .int (am_i nb)), (3, .int (am_i (((k + 1 : Nat) : Int) - 1)))] [] (I, J, R, 138) = am_E (d + 1) 231 4 [(0, .ref 64), (2, .int (am_i nb)), (3, .int (am_i ((k : Int) - 1)))] [] (am_up I 107 k (am_i 0), J, R, 138) := by
        rw [sg_X12_isNextRow_4, ek]
        simp (disch := first | assumption | omega) only [rM hm, ly_csm, ly_cam, ly_cf, ly_kd, ly_ln, ↓Bool.cond_decide, cond_true, cond_false, ↓bI_p, ↓bV_p, ↓bL_p, bIJ_s, bVJ_s, bLJ_s, ↓am_let_s, Nat.blt, Nat.ble, Bool.and_true, Bool.true_and, Bool.and_self, Int.cast_ofNat_Int, am_i_add, am_i_sub, am_i_mul, am_ok_i, am_i_cl, n_lt, n_le, n_eq, n_lt0, n_le0, n_0lt, n_0le, n_eq0, ne_eq, ↓reduceIte, not_true_eq_false, not_false_eq_true, and_true, true_and, and_false, false_and, eq_T, eq_F, lt_T, lt_F, le_T, le_F, qn_T, qn_F, and_F, b01_T, b01_F, e_isIn, Int32.toInt_toInt64, am_i_toInt, am_l_toInt, Int.toNat_natCast, Int.reduceToNat, Int.reduceAdd, Int.reduceSub, Int.reduceMul, Int.reduceNeg, Nat.reduceAdd, Nat.reduceMul, Nat.add_zero, Nat.mul_zero, Nat.zero_add, am_zb0, am_zb1, e7, em]
      rw [ee]
      exact p2
    · refine ⟨am_up I 107 k (am_i ((fo k + 1 : Nat) : Int)), fun q j e => by rw [am_up_o (by omega)]; exact hI q j e, Or.inr ⟨?_, fun j => if j < k then fo j else if j = k then fo k + 1 else 0, fun j hj => ?_, ?_⟩⟩
      · rw [sg_X12_isNextRow_4, ek]
        simp (disch := first | assumption | omega) only [rM hm, ly_csm, ly_cam, ly_cf, ly_kd, ly_ln, ↓Bool.cond_decide, cond_true, cond_false, ↓bI_p, ↓bV_p, ↓bL_p, bIJ_s, bVJ_s, bLJ_s, ↓am_let_s, Nat.blt, Nat.ble, Bool.and_true, Bool.true_and, Bool.and_self, Int.cast_ofNat_Int, am_i_add, am_i_sub, am_i_mul, am_ok_i, am_i_cl, n_lt, n_le, n_eq, n_lt0, n_le0, n_0lt, n_0le, n_eq0, ne_eq, ↓reduceIte, not_true_eq_false, not_false_eq_true, and_true, true_and, and_false, false_and, eq_T, eq_F, lt_T, lt_F, le_T, le_F, qn_T, qn_F, and_F, b01_T, b01_F, e_isIn, Int32.toInt_toInt64, am_i_toInt, am_l_toInt, Int.toNat_natCast, Int.reduceToNat, Int.reduceAdd, Int.reduceSub, Int.reduceMul, Int.reduceNeg, Nat.reduceAdd, Nat.reduceMul, Nat.add_zero, Nat.mul_zero, Nat.zero_add, am_zb0, am_zb1, e7, sg_X12_isNextRow_31, am_i_s]
      · show (if j < k then fo j else if j = k then fo k + 1 else 0) ≤ nb ∧ _ = am_i ((if j < k then fo j else if j = k then fo k + 1 else 0 : Nat) : Int)
        by_cases c : j < k
        · rw [if_pos c, am_up_o (by omega)]
          exact ⟨hfo j hj, h1 j (by omega)⟩
        · rw [if_neg c]
          by_cases c2 : j = k
          · rw [if_pos c2, c2, am_up_e]
            exact ⟨by omega, rfl⟩
          · rw [if_neg c2, am_up_o (by omega)]
            exact ⟨by omega, (h2 j (by omega) hj).2⟩
      · refine cdF_s (i := k) (fun j hj => if_pos hj) ?_ n (by omega) (fun j j1 j2 => ⟨?_, (h2 j (by omega) j2).1⟩)
        · show (if k < k then fo k else if k = k then fo k + 1 else 0) = _
          rw [if_neg (by omega), if_pos rfl]
        · show (if j < k then fo j else if j = k then fo k + 1 else 0) = _
          rw [if_neg (by omega), if_neg (by omega)]
theorem m_r55 {I0 : tI} {z : Int} (hm : st_Rm R) (hI0 : ridM last nb n nt ky s I0) (hz : z = -1 ∨ 0 ≤ z ∧ z < n) : ∀ (μ M : Nat) (f g : Nat → Nat) (I : tI), cdF (nb + 1) f n + μ = cdF (nb + 1) (fun _ => nb) n → (∀ q j, q ≠ 107 → I q j = I0 q j) → (∀ k, k < n → f k ≤ nb ∧ I 107 k = am_i (f k)) → (∀ k, k < n → g k ≤ nb) → vF (ftS last nb nt s ky) g n 0 (fun _ => 0) = M → cdF (nb + 1) g n ≤ cdF (nb + 1) f n → (∀ h : Nat → Nat, (∀ k, k < n → h k ≤ nb) → cdF (nb + 1) h n ≤ cdF (nb + 1) f n → vF (ftS last nb nt s ky) h n 0 (fun _ => 0) ≤ M ∧ (vF (ftS last nb nt s ky) h n 0 (fun _ => 0) = M → cdF (nb + 1) g n ≤ cdF (nb + 1) h n)) → ∃ (I' : tI) (M' : Nat) (g' : Nat → Nat), am_E (d + 6) 239 55 [(0, .ref 64), (1, .int (am_i z)), (2, .int (am_i M)), (3, .int (am_i (if z = -1 then -1 else (g z.toNat : Int) - 1)))] [] (I, J, R, 138) = some (some (.int (am_i (if z = -1 then (M' : Int) else (g' z.toNat : Int) - 1))), (I', J, R, 138)) ∧ bsF (ftS last nb nt s ky) nb n M' g' ∧ ∀ q j, q ≠ 107 → I' q j = I0 q j
  | μ, M, f, g, I, hμ, hI, hf, hg, hM, hgf, hbest => by
    have hIM := ridM_c hI0 hI
    obtain ⟨h1, h2, h3, h4, h5, h6, h7, h8⟩ := hIM
    have eR := fun (d : Nat) (I : tI) (e : ∀ q j, q ≠ 107 → I q j = I0 q j) => e_riders (d := d) (J := J) (R := R) (I := I) (n := n) hm (ridM_c hI0 e).2.2.2.2.2.1
    have eM := fun (d : Nat) (I : tI) (e : ∀ q j, q ≠ 107 → I q j = I0 q j) => e_many (d := d) (J := J) (R := R) (I := I) (nb := nb) hm (ridM_c hI0 e).2.2.2.2.1
    have vb := vF_b (fit := ftS last nb nt s ky) (f := g) n 0 (fun _ => 0)
    have gz : ∀ g : Nat → Nat, (∀ k, k < n → g k ≤ nb) → z ≠ -1 → (g z.toNat : Int) ≤ 6 := fun g hg e => by have := hg z.toNat (by omega); omega
    have nx := m_nx4 (d := d + 4) (J := J) (R := R) (I0 := I0) (nb := nb) (n := n) (fo := f) hm h3 (by omega) (fun k hk => (hf k hk).1) n I (Nat.le_refl _) hI (fun j hj => (hf j hj).2) (fun j j1 j2 => absurd j2 (by omega))
    have en : am_i ((n : Int) - 1) = am_i ((n : Int) - 1) := rfl
    have eR0 := fun d => eR d I hI
    have eM0 := fun d => eM d I hI
    obtain ⟨I1, i1, ⟨e0, p1⟩ | ⟨e1, f', p1, p2⟩⟩ := nx
    · refine ⟨I1, M, g, ?_, ⟨hg, hM, fun h hh => hbest h hh (cdF_le n (fun k hk => by rw [p1 k hk]; exact hh k hk))⟩, i1⟩
      rw [sg_X12_rides_55]
      by_cases q : z = -1
      · simp (disch := first | assumption | omega) only [↓Bool.cond_decide, cond_true, cond_false, ↓am_let_s, ↓bI_p, bIJ_s, ↓bV_p, bVJ_s, ↓bL_p, bLJ_s, ly_cf, Bool.and_self, Bool.and_true, am_i_add, am_i_sub, am_i_mul, am_ok_i, am_i_cl, n_lt, n_le, n_eq, n_lt0, n_le0, n_0lt, n_0le, n_eq0, ne_eq, ↓reduceIte, not_true_eq_false, not_false_eq_true, and_true, true_and, and_false, false_and, eq_T, eq_F, lt_T, lt_F, le_T, le_F, qn_T, qn_F, and_F, b01_T, b01_F, e_isIn, Int32.toInt_toInt64, am_i_toInt, am_l_toInt, Int.toNat_natCast, Int.reduceToNat, Int.reduceAdd, Int.reduceSub, Int.reduceMul, Int.reduceNeg, Nat.reduceAdd, Nat.reduceMul, Nat.add_zero, Nat.mul_zero, Nat.zero_add, am_zb0, am_zb1, eR0, eM0, sg_X12_isNextRow_0, e0, q]
      · simp (disch := first | assumption | omega) only [↓Bool.cond_decide, cond_true, cond_false, ↓am_let_s, ↓bI_p, bIJ_s, ↓bV_p, bVJ_s, ↓bL_p, bLJ_s, ly_cf, Bool.and_self, Bool.and_true, am_i_add, am_i_sub, am_i_mul, am_ok_i, am_i_cl, n_lt, n_le, n_eq, n_lt0, n_le0, n_0lt, n_0le, n_eq0, ne_eq, ↓reduceIte, not_true_eq_false, not_false_eq_true, and_true, true_and, and_false, false_and, eq_T, eq_F, lt_T, lt_F, le_T, le_F, qn_T, qn_F, and_F, b01_T, b01_F, e_isIn, Int32.toInt_toInt64, am_i_toInt, am_l_toInt, Int.toNat_natCast, Int.reduceToNat, Int.reduceAdd, Int.reduceSub, Int.reduceMul, Int.reduceNeg, Nat.reduceAdd, Nat.reduceMul, Nat.add_zero, Nat.mul_zero, Nat.zero_add, am_zb0, am_zb1, eR0, eM0, sg_X12_isNextRow_0, e0, if_neg q]
    · have top : cdF (nb + 1) f' n ≤ cdF (nb + 1) (fun _ => nb) n := cdF_le n (fun k hk => (p1 k hk).1)
      obtain ⟨μ', rfl⟩ : ∃ k, μ = k + 1 := ⟨μ - 1, by omega⟩
      have rd : ∀ d, am_E (d + 5) 238 4 [(0, .ref 64), (1, .int (am_i 0)), (2, .int (am_i 0))] [] (I1, J, R, 138) = _ := fun d => m_rd4 (d := d) (J := J) (R := R) (I := I1) (f := f') hm (ridM_c hI0 i1) p1 n 0 0 (by omega) (by omega)
      have vb' := vF_b (fit := ftS last nb nt s ky) (f := f') n 0 (fun _ => 0)
      have er : (if vF (ftS last nb nt s ky) f' n 0 (cnF f' 0) = -1 then -1 else ((0 : Nat) : Int) + vF (ftS last nb nt s ky) f' n 0 (cnF f' 0)) = vF (ftS last nb nt s ky) f' n 0 (fun _ => 0) := by
        show (if vF (ftS last nb nt s ky) f' n 0 (fun _ => 0) = -1 then -1 else ((0 : Nat) : Int) + vF (ftS last nb nt s ky) f' n 0 (fun _ => 0)) = _
        split <;> omega
      rw [er] at rd
      have hsame : ∀ h : Nat → Nat, (∀ k, k < n → h k ≤ nb) → cdF (nb + 1) h n ≤ cdF (nb + 1) f' n → cdF (nb + 1) h n ≤ cdF (nb + 1) f n ∨ (cdF (nb + 1) h n = cdF (nb + 1) f' n ∧ vF (ftS last nb nt s ky) h n 0 (fun _ => 0) = vF (ftS last nb nt s ky) f' n 0 (fun _ => 0)) := fun h hh hc => by
        by_cases c : cdF (nb + 1) h n ≤ cdF (nb + 1) f n
        · exact Or.inl c
        · have e : cdF (nb + 1) h n = cdF (nb + 1) f' n := by omega
          exact Or.inr ⟨e, vF_c n 0 _ (fun k _ hk => cdF_inj (B := nb + 1) n (fun k hk => by have := hh k hk; omega) (fun k hk => by have := (p1 k hk).1; omega) e k (by omega))⟩
      by_cases q : (M : Int) < vF (ftS last nb nt s ky) f' n 0 (fun _ => 0)
      · obtain ⟨M', hM'⟩ : ∃ k : Nat, vF (ftS last nb nt s ky) f' n 0 (fun _ => 0) = k := ⟨(vF (ftS last nb nt s ky) f' n 0 (fun _ => 0)).toNat, by omega⟩
        obtain ⟨I2, M2, g2, v1, v2, v3⟩ := m_r55 hm hI0 hz μ' M' f' f' I1 (by omega) i1 p1 (fun k hk => (p1 k hk).1) hM' (Nat.le_refl _) (fun h hh hc => by
          rcases hsame h hh hc with c | ⟨c1, c2⟩
          · have := (hbest h hh c).1
            exact ⟨by omega, fun e => by omega⟩
          · exact ⟨by omega, fun _ => by omega⟩)
        refine ⟨I2, M2, g2, ?_, v2, v3⟩
        rw [hM'] at rd q vb'
        rw [← v1, sg_X12_rides_55]
        by_cases qz : z = -1
        · simp (disch := first | assumption | omega) only [rM hm, ly_csm, ly_cam, ly_cf, ly_kd, ly_ln, ↓Bool.cond_decide, cond_true, cond_false, ↓bI_p, ↓bV_p, ↓bL_p, bIJ_s, bVJ_s, bLJ_s, ↓am_let_s, Nat.blt, Nat.ble, Bool.and_true, Bool.true_and, Bool.and_self, Int.cast_ofNat_Int, am_i_add, am_i_sub, am_i_mul, am_ok_i, am_i_cl, n_lt, n_le, n_eq, n_lt0, n_le0, n_0lt, n_0le, n_eq0, ne_eq, ↓reduceIte, not_true_eq_false, not_false_eq_true, and_true, true_and, and_false, false_and, eq_T, eq_F, lt_T, lt_F, le_T, le_F, qn_T, qn_F, and_F, b01_T, b01_F, e_isIn, Int32.toInt_toInt64, am_i_toInt, am_l_toInt, Int.toNat_natCast, Int.reduceToNat, Int.reduceAdd, Int.reduceSub, Int.reduceMul, Int.reduceNeg, Nat.reduceAdd, Nat.reduceMul, Nat.add_zero, Nat.mul_zero, Nat.zero_add, am_zb0, am_zb1, eR0, eM0, sg_X12_isNextRow_0, e1, sg_X12_ridden_0, rd, qz]
        · have e7 := (p1 z.toNat (by omega)).2
          have := gz f' (fun k hk => (p1 k hk).1) qz
          simp (disch := first | assumption | omega) only [rM hm, ly_csm, ly_cam, ly_cf, ly_kd, ly_ln, ↓Bool.cond_decide, cond_true, cond_false, ↓bI_p, ↓bV_p, ↓bL_p, bIJ_s, bVJ_s, bLJ_s, ↓am_let_s, Nat.blt, Nat.ble, Bool.and_true, Bool.true_and, Bool.and_self, Int.cast_ofNat_Int, am_i_add, am_i_sub, am_i_mul, am_ok_i, am_i_cl, n_lt, n_le, n_eq, n_lt0, n_le0, n_0lt, n_0le, n_eq0, ne_eq, ↓reduceIte, not_true_eq_false, not_false_eq_true, and_true, true_and, and_false, false_and, eq_T, eq_F, lt_T, lt_F, le_T, le_F, qn_T, qn_F, and_F, b01_T, b01_F, e_isIn, Int32.toInt_toInt64, am_i_toInt, am_l_toInt, Int.toNat_natCast, Int.reduceToNat, Int.reduceAdd, Int.reduceSub, Int.reduceMul, Int.reduceNeg, Nat.reduceAdd, Nat.reduceMul, Nat.add_zero, Nat.mul_zero, Nat.zero_add, am_zb0, am_zb1, eR0, eM0, sg_X12_isNextRow_0, e1, sg_X12_ridden_0, rd, if_neg qz, e7]
      · obtain ⟨I2, M2, g2, v1, v2, v3⟩ := m_r55 hm hI0 hz μ' M f' g I1 (by omega) i1 p1 hg hM (by omega) (fun h hh hc => by
          rcases hsame h hh hc with c | ⟨c1, c2⟩
          · exact hbest h hh c
          · exact ⟨by omega, fun _ => by omega⟩)
        refine ⟨I2, M2, g2, ?_, v2, v3⟩
        rw [← v1, sg_X12_rides_55]
        generalize vF (ftS last nb nt s ky) f' n 0 (fun _ => 0) = V at *
        simp (disch := first | assumption | omega) only [rM hm, ly_csm, ly_cam, ly_cf, ly_kd, ly_ln, ↓Bool.cond_decide, cond_true, cond_false, ↓bI_p, ↓bV_p, ↓bL_p, bIJ_s, bVJ_s, bLJ_s, ↓am_let_s, Nat.blt, Nat.ble, Bool.and_true, Bool.true_and, Bool.and_self, Int.cast_ofNat_Int, am_i_add, am_i_sub, am_i_mul, am_ok_i, am_i_cl, n_lt, n_le, n_eq, n_lt0, n_le0, n_0lt, n_0le, n_eq0, ne_eq, ↓reduceIte, not_true_eq_false, not_false_eq_true, and_true, true_and, and_false, false_and, eq_T, eq_F, lt_T, lt_F, le_T, le_F, qn_T, qn_F, and_F, b01_T, b01_F, e_isIn, Int32.toInt_toInt64, am_i_toInt, am_l_toInt, Int.toNat_natCast, Int.reduceToNat, Int.reduceAdd, Int.reduceSub, Int.reduceMul, Int.reduceNeg, Nat.reduceAdd, Nat.reduceMul, Nat.add_zero, Nat.mul_zero, Nat.zero_add, am_zb0, am_zb1, eR0, eM0, sg_X12_isNextRow_0, e1, sg_X12_ridden_0, rd]
theorem m_r32 {z : Int} (hm : st_Rm R) : ∀ (m i : Nat) (I : tI), i + m = 6 → ∃ I', am_E (d + 1) 239 32 [(0, .ref 64), (1, .int (am_i z)), (2, .int (am_i i))] [] (I, J, R, 138) = am_E (d + 1) 239 55 [(0, .ref 64), (1, .int (am_i z)), (2, .int (am_i 0)), (3, .int (am_i (-1)))] [] (I', J, R, 138) ∧ (∀ q j, q ≠ 107 → I' q j = I q j) ∧ (∀ j, i ≤ j → j < 6 → I' 107 j = am_i 0) ∧ ∀ j, j < i → I' 107 j = I 107 j
  | 0, i, I, hi => by
    refine ⟨I, ?_, fun _ _ _ => rfl, fun j j1 j2 => absurd j2 (by omega), fun _ _ => rfl⟩
    rw [sg_X12_rides_32]
    simp (disch := first | assumption | omega) only [rM hm, ly_csm, ly_cam, ly_cf, ly_kd, ly_ln, ↓Bool.cond_decide, cond_true, cond_false, ↓bI_p, ↓bV_p, ↓bL_p, bIJ_s, bVJ_s, bLJ_s, ↓am_let_s, Nat.blt, Nat.ble, Bool.and_true, Bool.true_and, Bool.and_self, Int.cast_ofNat_Int, am_i_add, am_i_sub, am_i_mul, am_ok_i, am_i_cl, n_lt, n_le, n_eq, n_lt0, n_le0, n_0lt, n_0le, n_eq0, ne_eq, ↓reduceIte, not_true_eq_false, not_false_eq_true, and_true, true_and, and_false, false_and, eq_T, eq_F, lt_T, lt_F, le_T, le_F, qn_T, qn_F, and_F, b01_T, b01_F, e_isIn, Int32.toInt_toInt64, am_i_toInt, am_l_toInt, Int.toNat_natCast, Int.reduceToNat, Int.reduceAdd, Int.reduceSub, Int.reduceMul, Int.reduceNeg, Nat.reduceAdd, Nat.reduceMul, Nat.add_zero, Nat.mul_zero, Nat.zero_add, am_zb0, am_zb1]
  | m + 1, i, I, hi => by
    obtain ⟨I', p1, p2, p3, p4⟩ := m_r32 hm m (i + 1) (am_up I 107 i (am_i 0)) (by omega)
    refine ⟨I', ?_, fun q j e => by rw [p2 q j e, am_up_o (by omega)], fun j j1 j2 => ?_, fun j hj => by rw [p4 j (by omega), am_up_o (by omega)]⟩
    · rw [← p1, sg_X12_rides_32]
      simp (disch := first | assumption | omega) only [rM hm, ly_csm, ly_cam, ly_cf, ly_kd, ly_ln, ↓Bool.cond_decide, cond_true, cond_false, ↓bI_p, ↓bV_p, ↓bL_p, bIJ_s, bVJ_s, bLJ_s, ↓am_let_s, Nat.blt, Nat.ble, Bool.and_true, Bool.true_and, Bool.and_self, Int.cast_ofNat_Int, am_i_add, am_i_sub, am_i_mul, am_ok_i, am_i_cl, n_lt, n_le, n_eq, n_lt0, n_le0, n_0lt, n_0le, n_eq0, ne_eq, ↓reduceIte, not_true_eq_false, not_false_eq_true, and_true, true_and, and_false, false_and, eq_T, eq_F, lt_T, lt_F, le_T, le_F, qn_T, qn_F, and_F, b01_T, b01_F, e_isIn, Int32.toInt_toInt64, am_i_toInt, am_l_toInt, Int.toNat_natCast, Int.reduceToNat, Int.reduceAdd, Int.reduceSub, Int.reduceMul, Int.reduceNeg, Nat.reduceAdd, Nat.reduceMul, Nat.add_zero, Nat.mul_zero, Nat.zero_add, am_zb0, am_zb1, am_i_s]
    · by_cases c : j = i
      · rw [c, p4 i (by omega), am_up_e]
      · exact p3 j (by omega) j2
end RIDM
