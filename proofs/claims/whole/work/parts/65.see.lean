/-! ===== see ===== -/
def xC (q k : Nat) : Prop := (q = 3 ∧ k = 1) ∨ (q = 64 ∧ (k = 1 ∨ k = 63)) ∨ q = 63 ∨ q = 66 ∨ (q = 57 ∧ k = 1) ∨ q = 58 ∨ q = 108
theorem vV_x {L : Nat} {xs : Nat → Int32} {I I' : tI} {J J' : tJ} {R R' : tR} (hV : vV restW L xs I J R) (hI : ∀ q k, ¬ sC q k → ¬ xC q k → I' q k = I q k) (hJ : ∀ q k, q ≠ 136 → q ≠ 51 → J' q k = J q k) (hR : rR R R') (t1 : vTape I') (t2 : vRefd I') (t3 : vSeen I') : vV restW L xs I' J' R' := by
  obtain ⟨⟨h1, h2, hx, hm, ha, hb, hc, hd, he⟩, -, -, hf, hp, -, hsd, hw⟩ := hV
  have g := hR.1
  refine ⟨⟨?_, ?_, rR_x hR hx, rR_m hR hm, ?_, ?_, hR.2.1, hR.2.2, ?_⟩, t1, t2, vFault_cg I I' (fun q k e => hI q k ?_ ?_) hf, vPic_cg I I' (fun q k e => hI q k ?_ ?_) hp, t3, ?_, restW_C I J R I' J' R' (fun q k e => hI q k (dW_n e) ?_) (fun q k e => hJ q k ?_ ?_) (fun q k e => g q k ?_) hw⟩
  · funext k
    rw [hI 1 k (by unfold sC; omega) (by unfold xC; omega), h1]
  · rw [g _ _ (by omega)]; exact h2
  · rw [g _ _ (by omega), g _ _ (by omega)]; exact ha
  · rw [g _ _ (by omega)]; exact hb
  · rw [g _ _ (by omega)]; exact he
  · unfold dFault at e; simp at e; unfold sC; omega
  · unfold dFault at e; simp at e; unfold xC; omega
  · unfold dPic at e; simp at e; unfold sC; omega
  · unfold dPic at e; simp at e; unfold xC; omega
  · obtain ⟨s, s1, s2, s3⟩ := hsd
    exact ⟨s, s1, by rw [hI _ _ (by unfold sC; omega) (by unfold xC; omega)]; exact s2, by rw [hJ _ _ (by omega) (by omega)]; exact s3⟩
  · unfold dW at e; simp at e; unfold xC; omega
  · unfold dWJ at e; simp at e; omega
  · unfold dWJ at e; simp at e; omega
  · unfold dWR at e; simp at e; omega
theorem tape_T {I : tI} (h : vTape I) : ∃ (n : Nat) (T : Nat → Nat), n ≤ 1600 ∧ I 3 1 = am_i n ∧ I 64 1 = am_i n ∧ ∀ k, k < n → T k < 256 ∧ I 4 k = am_i (T k) ∧ I 65 k = am_i (T k) := by
  obtain ⟨n, h1, h2, h3, h4⟩ := h
  have h4' : ∀ k, ∃ v : Nat, k < n → v < 256 ∧ I 4 k = am_i v ∧ I 65 k = am_i v := fun k => by
    by_cases q : k < n
    · obtain ⟨v, x⟩ := h4 k q
      exact ⟨v, fun _ => x⟩
    · exact ⟨0, fun e => absurd e q⟩
  obtain ⟨F, hF⟩ := Classical.axiomOfChoice h4'
  exact ⟨n, F, h1, h2, h3, hF⟩
def tkF (T : Nat → Nat) : Nat → Nat → Bool
  | 0, _ => true
  | m + 1, r => if T (2 * r) ≤ 30 ∧ T (2 * r + 1) ≤ 8 then tkF T m (r + 1) else false
theorem tkF_t {T : Nat → Nat} : ∀ (m r : Nat), tkF T m r = true → ∀ k, r ≤ k → k < r + m → T (2 * k) ≤ 30 ∧ T (2 * k + 1) ≤ 8
  | 0, r, _, k, k1, k2 => by omega
  | m + 1, r, h, k, k1, k2 => by
    by_cases q : T (2 * r) ≤ 30 ∧ T (2 * r + 1) ≤ 8
    · have e : tkF T (m + 1) r = tkF T m (r + 1) := if_pos q
      rw [e] at h
      by_cases c : k = r
      · subst c; exact q
      · exact tkF_t m (r + 1) h k (by omega) (by omega)
    · have e : tkF T (m + 1) r = false := if_neg q
      rw [e] at h
      cases h
theorem cyT {n : Nat} (h : n ≤ 32) : am_cy 138 4 (am_i 0) 58 (am_i 0) (am_i n) = true := by
  have : ∀ n : Fin 33, am_cy 138 4 (am_i 0) 58 (am_i 0) (am_i (n.val : Int)) = true := by decide
  exact this ⟨n, by omega⟩
section SEE
variable {d : Nat} {I : tI} {J : tJ} {R : tR} {T : Nat → Nat} {n : Nat}
theorem x_t27 (hx : st_Rx R) (hn : n ≤ 16) (hT : ∀ k, k < 2 * n → T k < 256 ∧ I 4 k = am_i (T k)) : ∀ (m r : Nat), r + m = n → am_E (d + 1) 30 27 [(0, .ref 57), (1, .ref 4), (2, .int (am_i (2 * n : Nat))), (3, .int (am_i (2 * r : Nat)))] [] (I, J, R, 138) = if tkF T m r = true then some (some (.int (am_i 1)), (am_up (am_cp I 4 0 58 0 (2 * n)) 57 1 (am_i n), J, R, 138)) else some (some (.int (am_i 0)), (I, J, R, 138))
  | 0, r, hr => by
    have cy := cyT (n := 2 * n) (by omega)
    have e2 : am_i ((2 * n : Nat) : Int) / am_i 2 = am_i n := by
      have := dvN (a := 2 * n) (b := 2) (by omega) (by omega)
      rw [show 2 * n / 2 = n by omega] at this
      exact this
    have nz : (!am_i 2 == 0) = true := by decide
    have e3 : (((2 * n : Nat) : Int)).toNat = 2 * n := by omega
    rw [sg_X4_take_27, if_pos (show tkF T 0 r = true from rfl), show 2 * r = 2 * n by omega]
    simp (disch := first | assumption | omega) only [rX hx, ly_csx, ly_cax, ly_cf, ly_kd, ly_ln, ↓Bool.cond_decide, cond_true, cond_false, ↓bI_p, ↓bV_p, ↓bL_p, bIJ_s, bVJ_s, bLJ_s, ↓am_let_s, Nat.blt, Nat.ble, Bool.and_true, Bool.true_and, Bool.and_self, Int.cast_ofNat_Int, cy, nz, e2, n_le, le_T, decide_true, am_i_cl, e3, ↓reduceIte]
    rfl
  | m + 1, r, hr => by
    obtain ⟨t1, t2⟩ := hT (2 * r) (by omega)
    obtain ⟨t3, t4⟩ := hT (2 * r + 1) (by omega)
    have e1 : (((2 * r : Nat) : Int)).toNat = 2 * r := by omega
    have e2 : (((2 * r : Nat) : Int) + 1).toNat = 2 * r + 1 := by omega
    have e3 : am_i (((2 * r : Nat) : Int) + 2) = am_i ((2 * (r + 1) : Nat) : Int) := by congr 1
    have ih := x_t27 hx hn hT m (r + 1) (by omega)
    rw [sg_X4_take_27]
    by_cases q1 : T (2 * r) ≤ 30
    · by_cases q2 : T (2 * r + 1) ≤ 8
      · rw [show tkF T (m + 1) r = tkF T m (r + 1) from if_pos ⟨q1, q2⟩]
        simp (disch := first | assumption | omega) only [rX hx, ly_csx, ly_cax, ly_cf, ly_kd, ly_ln, ↓Bool.cond_decide, cond_true, cond_false, ↓bI_p, ↓bV_p, ↓bL_p, bIJ_s, bVJ_s, bLJ_s, ↓am_let_s, Nat.blt, Nat.ble, Bool.and_true, Bool.true_and, Bool.and_self, Int.cast_ofNat_Int, am_i_add, e3, ih, am_i_add, am_i_sub, am_i_mul, am_ok_i, am_i_cl, n_lt, n_le, n_eq, n_lt0, n_le0, n_0lt, n_0le, n_eq0, ne_eq, ↓reduceIte, not_true_eq_false, not_false_eq_true, and_true, true_and, and_false, false_and, eq_T, eq_F, lt_T, lt_F, le_T, le_F, qn_T, qn_F, and_F, b01_T, b01_F, e_isIn, Int32.toInt_toInt64, am_i_toInt, am_l_toInt, Int.toNat_natCast, Int.reduceToNat, Int.reduceAdd, Int.reduceSub, Int.reduceMul, Int.reduceNeg, Nat.reduceAdd, Nat.reduceMul, Nat.add_zero, Nat.mul_zero, Nat.zero_add, am_zb0, am_zb1, e1, e2, t2, t4]
      · rw [show tkF T (m + 1) r = false from if_neg (fun e => q2 e.2)]
        simp (disch := first | assumption | omega) only [rX hx, ly_csx, ly_cax, ly_cf, ly_kd, ly_ln, ↓Bool.cond_decide, cond_true, cond_false, ↓bI_p, ↓bV_p, ↓bL_p, bIJ_s, bVJ_s, bLJ_s, ↓am_let_s, Nat.blt, Nat.ble, Bool.and_true, Bool.true_and, Bool.and_self, Int.cast_ofNat_Int, am_i_add, am_i_sub, am_i_mul, am_ok_i, am_i_cl, n_lt, n_le, n_eq, n_lt0, n_le0, n_0lt, n_0le, n_eq0, ne_eq, ↓reduceIte, not_true_eq_false, not_false_eq_true, and_true, true_and, and_false, false_and, eq_T, eq_F, lt_T, lt_F, le_T, le_F, qn_T, qn_F, and_F, b01_T, b01_F, e_isIn, Int32.toInt_toInt64, am_i_toInt, am_l_toInt, Int.toNat_natCast, Int.reduceToNat, Int.reduceAdd, Int.reduceSub, Int.reduceMul, Int.reduceNeg, Nat.reduceAdd, Nat.reduceMul, Nat.add_zero, Nat.mul_zero, Nat.zero_add, am_zb0, am_zb1, e1, e2, t2, t4, sg_X4_take_50, if_false, Bool.false_eq_true]
    · rw [show tkF T (m + 1) r = false from if_neg (fun e => q1 e.1)]
      simp (disch := first | assumption | omega) only [rX hx, ly_csx, ly_cax, ly_cf, ly_kd, ly_ln, ↓Bool.cond_decide, cond_true, cond_false, ↓bI_p, ↓bV_p, ↓bL_p, bIJ_s, bVJ_s, bLJ_s, ↓am_let_s, Nat.blt, Nat.ble, Bool.and_true, Bool.true_and, Bool.and_self, Int.cast_ofNat_Int, am_i_add, am_i_sub, am_i_mul, am_ok_i, am_i_cl, n_lt, n_le, n_eq, n_lt0, n_le0, n_0lt, n_0le, n_eq0, ne_eq, ↓reduceIte, not_true_eq_false, not_false_eq_true, and_true, true_and, and_false, false_and, eq_T, eq_F, lt_T, lt_F, le_T, le_F, qn_T, qn_F, and_F, b01_T, b01_F, e_isIn, Int32.toInt_toInt64, am_i_toInt, am_l_toInt, Int.toNat_natCast, Int.reduceToNat, Int.reduceAdd, Int.reduceSub, Int.reduceMul, Int.reduceNeg, Nat.reduceAdd, Nat.reduceMul, Nat.add_zero, Nat.mul_zero, Nat.zero_add, am_zb0, am_zb1, e1, t2, sg_X4_take_50, if_false, Bool.false_eq_true]
theorem m_s43 (hm : st_Rm R) (hn : n ≤ 16) (hT : ∀ k, k < 2 * n → T k < 256 ∧ I 65 k = am_i (T k)) : ∀ (m r : Nat), r + m = n → am_E (d + 1) 241 43 [(0, .ref 64), (1, .int (am_i (2 * n : Nat))), (2, .int (am_i 1)), (3, .int (am_i (2 * r : Nat)))] [] (I, J, R, 138) = am_E (d + 1) 241 88 [(0, .ref 64), (1, .int (am_i (2 * n : Nat))), (2, .int (am_i (if tkF T m r = true then 1 else 0)))] [] (I, J, R, 138)
  | 0, r, hr => by
    rw [sg_X12_see_43, if_pos (show tkF T 0 r = true from rfl), show 2 * r = 2 * n by omega]
    simp (disch := first | assumption | omega) only [rM hm, ly_csm, ly_cam, ly_cf, ly_kd, ly_ln, ↓Bool.cond_decide, cond_true, cond_false, ↓bI_p, ↓bV_p, ↓bL_p, bIJ_s, bVJ_s, bLJ_s, ↓am_let_s, Nat.blt, Nat.ble, Bool.and_true, Bool.true_and, Bool.and_self, Int.cast_ofNat_Int, am_i_add, am_i_sub, am_i_mul, am_ok_i, am_i_cl, n_lt, n_le, n_eq, n_lt0, n_le0, n_0lt, n_0le, n_eq0, ne_eq, ↓reduceIte, not_true_eq_false, not_false_eq_true, and_true, true_and, and_false, false_and, eq_T, eq_F, lt_T, lt_F, le_T, le_F, qn_T, qn_F, and_F, b01_T, b01_F, e_isIn, Int32.toInt_toInt64, am_i_toInt, am_l_toInt, Int.toNat_natCast, Int.reduceToNat, Int.reduceAdd, Int.reduceSub, Int.reduceMul, Int.reduceNeg, Nat.reduceAdd, Nat.reduceMul, Nat.add_zero, Nat.mul_zero, Nat.zero_add, am_zb0, am_zb1]
  | m + 1, r, hr => by
    obtain ⟨t1, t2⟩ := hT (2 * r) (by omega)
    obtain ⟨t3, t4⟩ := hT (2 * r + 1) (by omega)
    have e1 : (((2 * r : Nat) : Int)).toNat = 2 * r := by omega
    have e2 : (((2 * r : Nat) : Int) + 1).toNat = 2 * r + 1 := by omega
    have e3 : am_i (((2 * r : Nat) : Int) + 2) = am_i ((2 * (r + 1) : Nat) : Int) := by congr 1
    have ih := m_s43 hm hn hT m (r + 1) (by omega)
    have stop : am_E (d + 1) 241 43 [(0, .ref 64), (1, .int (am_i (2 * n : Nat))), (2, .int (am_i 0)), (3, .int (am_i (2 * (r + 1) : Nat)))] [] (I, J, R, 138) = am_E (d + 1) 241 88 [(0, .ref 64), (1, .int (am_i (2 * n : Nat))), (2, .int (am_i 0))] [] (I, J, R, 138) := by
      rw [sg_X12_see_43]
      by_cases q : n ≤ r + 1
      · simp (disch := first | assumption | omega) only [rM hm, ly_csm, ly_cam, ly_cf, ly_kd, ly_ln, ↓Bool.cond_decide, cond_true, cond_false, ↓bI_p, ↓bV_p, ↓bL_p, bIJ_s, bVJ_s, bLJ_s, ↓am_let_s, Nat.blt, Nat.ble, Bool.and_true, Bool.true_and, Bool.and_self, Int.cast_ofNat_Int, am_i_add, am_i_sub, am_i_mul, am_ok_i, am_i_cl, n_lt, n_le, n_eq, n_lt0, n_le0, n_0lt, n_0le, n_eq0, ne_eq, ↓reduceIte, not_true_eq_false, not_false_eq_true, and_true, true_and, and_false, false_and, eq_T, eq_F, lt_T, lt_F, le_T, le_F, qn_T, qn_F, and_F, b01_T, b01_F, e_isIn, Int32.toInt_toInt64, am_i_toInt, am_l_toInt, Int.toNat_natCast, Int.reduceToNat, Int.reduceAdd, Int.reduceSub, Int.reduceMul, Int.reduceNeg, Nat.reduceAdd, Nat.reduceMul, Nat.add_zero, Nat.mul_zero, Nat.zero_add, am_zb0, am_zb1]
      · simp (disch := first | assumption | omega) only [rM hm, ly_csm, ly_cam, ly_cf, ly_kd, ly_ln, ↓Bool.cond_decide, cond_true, cond_false, ↓bI_p, ↓bV_p, ↓bL_p, bIJ_s, bVJ_s, bLJ_s, ↓am_let_s, Nat.blt, Nat.ble, Bool.and_true, Bool.true_and, Bool.and_self, Int.cast_ofNat_Int, am_i_add, am_i_sub, am_i_mul, am_ok_i, am_i_cl, n_lt, n_le, n_eq, n_lt0, n_le0, n_0lt, n_0le, n_eq0, ne_eq, ↓reduceIte, not_true_eq_false, not_false_eq_true, and_true, true_and, and_false, false_and, eq_T, eq_F, lt_T, lt_F, le_T, le_F, qn_T, qn_F, and_F, b01_T, b01_F, e_isIn, Int32.toInt_toInt64, am_i_toInt, am_l_toInt, Int.toNat_natCast, Int.reduceToNat, Int.reduceAdd, Int.reduceSub, Int.reduceMul, Int.reduceNeg, Nat.reduceAdd, Nat.reduceMul, Nat.add_zero, Nat.mul_zero, Nat.zero_add, am_zb0, am_zb1]
    rw [sg_X12_see_43]
    by_cases q1 : T (2 * r) ≤ 30
    · by_cases q2 : T (2 * r + 1) ≤ 8
      · rw [show tkF T (m + 1) r = tkF T m (r + 1) from if_pos ⟨q1, q2⟩]
        simp (disch := first | assumption | omega) only [rM hm, ly_csm, ly_cam, ly_cf, ly_kd, ly_ln, ↓Bool.cond_decide, cond_true, cond_false, ↓bI_p, ↓bV_p, ↓bL_p, bIJ_s, bVJ_s, bLJ_s, ↓am_let_s, Nat.blt, Nat.ble, Bool.and_true, Bool.true_and, Bool.and_self, Int.cast_ofNat_Int, am_i_add, e3, ih, am_i_add, am_i_sub, am_i_mul, am_ok_i, am_i_cl, n_lt, n_le, n_eq, n_lt0, n_le0, n_0lt, n_0le, n_eq0, ne_eq, ↓reduceIte, not_true_eq_false, not_false_eq_true, and_true, true_and, and_false, false_and, eq_T, eq_F, lt_T, lt_F, le_T, le_F, qn_T, qn_F, and_F, b01_T, b01_F, e_isIn, Int32.toInt_toInt64, am_i_toInt, am_l_toInt, Int.toNat_natCast, Int.reduceToNat, Int.reduceAdd, Int.reduceSub, Int.reduceMul, Int.reduceNeg, Nat.reduceAdd, Nat.reduceMul, Nat.add_zero, Nat.mul_zero, Nat.zero_add, am_zb0, am_zb1, e1, e2, t2, t4]
      · rw [show tkF T (m + 1) r = false from if_neg (fun e => q2 e.2)]
        simp (disch := first | assumption | omega) only [rM hm, ly_csm, ly_cam, ly_cf, ly_kd, ly_ln, ↓Bool.cond_decide, cond_true, cond_false, ↓bI_p, ↓bV_p, ↓bL_p, bIJ_s, bVJ_s, bLJ_s, ↓am_let_s, Nat.blt, Nat.ble, Bool.and_true, Bool.true_and, Bool.and_self, Int.cast_ofNat_Int, sg_X12_see_80, am_i_add, e3, stop, am_i_add, am_i_sub, am_i_mul, am_ok_i, am_i_cl, n_lt, n_le, n_eq, n_lt0, n_le0, n_0lt, n_0le, n_eq0, ne_eq, ↓reduceIte, not_true_eq_false, not_false_eq_true, and_true, true_and, and_false, false_and, eq_T, eq_F, lt_T, lt_F, le_T, le_F, qn_T, qn_F, and_F, b01_T, b01_F, e_isIn, Int32.toInt_toInt64, am_i_toInt, am_l_toInt, Int.toNat_natCast, Int.reduceToNat, Int.reduceAdd, Int.reduceSub, Int.reduceMul, Int.reduceNeg, Nat.reduceAdd, Nat.reduceMul, Nat.add_zero, Nat.mul_zero, Nat.zero_add, am_zb0, am_zb1, e1, e2, t2, t4, if_false, Bool.false_eq_true]
    · rw [show tkF T (m + 1) r = false from if_neg (fun e => q1 e.1)]
      simp (disch := first | assumption | omega) only [rM hm, ly_csm, ly_cam, ly_cf, ly_kd, ly_ln, ↓Bool.cond_decide, cond_true, cond_false, ↓bI_p, ↓bV_p, ↓bL_p, bIJ_s, bVJ_s, bLJ_s, ↓am_let_s, Nat.blt, Nat.ble, Bool.and_true, Bool.true_and, Bool.and_self, Int.cast_ofNat_Int, sg_X12_see_80, am_i_add, e3, stop, am_i_add, am_i_sub, am_i_mul, am_ok_i, am_i_cl, n_lt, n_le, n_eq, n_lt0, n_le0, n_0lt, n_0le, n_eq0, ne_eq, ↓reduceIte, not_true_eq_false, not_false_eq_true, and_true, true_and, and_false, false_and, eq_T, eq_F, lt_T, lt_F, le_T, le_F, qn_T, qn_F, and_F, b01_T, b01_F, e_isIn, Int32.toInt_toInt64, am_i_toInt, am_l_toInt, Int.toNat_natCast, Int.reduceToNat, Int.reduceAdd, Int.reduceSub, Int.reduceMul, Int.reduceNeg, Nat.reduceAdd, Nat.reduceMul, Nat.add_zero, Nat.mul_zero, Nat.zero_add, am_zb0, am_zb1, e1, t2, if_false, Bool.false_eq_true]
theorem m_s100 (hm : st_Rm R) (hn : n ≤ 16) : ∀ (m i : Nat) (I : tI), i + m = 2 * n → ∃ I', am_E (d + 1) 241 100 [(0, .ref 64), (1, .int (am_i (2 * n : Nat))), (3, .int (am_i i))] [] (I, J, R, 138) = some (some (.int (am_i n)), (I', J, R, 138)) ∧ I' 64 63 = am_i n ∧ (∀ k, i ≤ k → k < 2 * n → I' 108 k = I 65 k) ∧ ∀ q k, ¬ (q = 64 ∧ k = 63) → ¬ (q = 108 ∧ i ≤ k ∧ k < 2 * n) → I' q k = I q k
  | 0, i, I, hi => by
    have e2 : am_i ((2 * n : Nat) : Int) / am_i 2 = am_i n := by
      have := dvN (a := 2 * n) (b := 2) (by omega) (by omega)
      rw [show 2 * n / 2 = n by omega] at this
      exact this
    have nz : (!am_i 2 == 0) = true := by decide
    refine ⟨am_up I 64 63 (am_i n), ?_, am_up_e, fun k k1 k2 => absurd k2 (by omega), fun q k e1 e2 => am_up_o e1⟩
    rw [sg_X12_see_100, show i = 2 * n by omega]
    simp (disch := first | assumption | omega) only [rM hm, ly_csm, ly_cam, ly_cf, ly_kd, ly_ln, ↓Bool.cond_decide, cond_true, cond_false, ↓bI_p, ↓bV_p, ↓bL_p, bIJ_s, bVJ_s, bLJ_s, ↓am_let_s, Nat.blt, Nat.ble, Bool.and_true, Bool.true_and, Bool.and_self, Int.cast_ofNat_Int, nz, e2, am_up_e, n_le, le_T, ↓reduceIte]
  | m + 1, i, I, hi => by
    obtain ⟨I', g1, g2, g3, g4⟩ := m_s100 hm hn m (i + 1) (am_up I 108 i (I 65 i)) (by omega)
    refine ⟨I', ?_, g2, fun k k1 k2 => ?_, fun q k e1 e2 => ?_⟩
    · rw [← g1, sg_X12_see_100]
      simp (disch := first | assumption | omega) only [rM hm, ly_csm, ly_cam, ly_cf, ly_kd, ly_ln, ↓Bool.cond_decide, cond_true, cond_false, ↓bI_p, ↓bV_p, ↓bL_p, bIJ_s, bVJ_s, bLJ_s, ↓am_let_s, Nat.blt, Nat.ble, Bool.and_true, Bool.true_and, Bool.and_self, Int.cast_ofNat_Int, am_i_add, am_i_sub, am_i_mul, am_ok_i, am_i_cl, n_lt, n_le, n_eq, n_lt0, n_le0, n_0lt, n_0le, n_eq0, ne_eq, ↓reduceIte, not_true_eq_false, not_false_eq_true, and_true, true_and, and_false, false_and, eq_T, eq_F, lt_T, lt_F, le_T, le_F, qn_T, qn_F, and_F, b01_T, b01_F, e_isIn, Int32.toInt_toInt64, am_i_toInt, am_l_toInt, Int.toNat_natCast, Int.reduceToNat, Int.reduceAdd, Int.reduceSub, Int.reduceMul, Int.reduceNeg, Nat.reduceAdd, Nat.reduceMul, Nat.add_zero, Nat.mul_zero, Nat.zero_add, am_zb0, am_zb1, am_i_s]
    · by_cases e : k = i
      · subst e
        rw [g4 _ _ (by omega) (by omega), am_up_e]
      · rw [g3 k (by omega) k2, am_up_o (by omega)]
    · rw [g4 q k e1 (by omega), am_up_o (by omega)]
end SEE
section PSEE
variable {L : Nat} {xs : Nat → Int32}
theorem p_see (d : Nat) : pr_I (vV restW L xs) (d + 3) 120 241 [] := by
  refine pW_I ?_
  intro I J R hV
  have hV0 := hV
  obtain ⟨⟨h1, h2, hx, hm, hmu⟩, ht, hr, hf, hp, hs, hd, hw⟩ := hV
  obtain ⟨c, last, nb, nr, nw, wd, sq, K, nt, wf, fm, h4, hc, hB, hN, hF, ⟨h, s, ⟨hh, e66, g0, hbt⟩, ⟨ek, gk, hkp⟩, hKh⟩, hA, hX⟩ := hw
  obtain ⟨b1, b2, b3, b4, b5, b6, b7, b8, i0, m0, i1, m1, i2, m2, i3, m3, i4, m4, i5, m5, mS, mT, hnt, hky, hwf⟩ := hB
  obtain ⟨n, T, hn, t1, t2, hT⟩ := tape_T ht
  have xH := fun d => e_hasSound (d := d) (J := J) hx h4 hc b2 i0
  have nz : (!am_i 2 == 0) = true := by decide
  have em : am_i (n : Int) - am_i (n : Int) / am_i 2 * am_i 2 = am_i ((n % 2 : Nat) : Int) := mdN (a := n) (b := 2) (by omega) (by omega)
  have ed : am_i (n : Int) / am_i 2 = am_i ((n / 2 : Nat) : Int) := dvN (a := n) (b := 2) (by omega) (by omega)
  by_cases hq : (last ≠ 0 ∧ 2 ≤ n ∧ n ≤ 32 ∧ n % 2 = 0) ∧ tkF T (n / 2) 0 = true
  · obtain ⟨⟨q0, q1, q2, q3⟩, q4⟩ := hq
    obtain ⟨k, rfl⟩ : ∃ k, n = 2 * k := ⟨n / 2, by omega⟩
    rw [show 2 * k / 2 = k by omega] at q4
    refine ⟨am_i k, ?_⟩
    have tk : ∀ d, am_E (d + 1) 30 27 [(0, .ref 57), (1, .ref 4), (2, .int (am_i (2 * k : Nat))), (3, .int (am_i 0))] [] (I, J, R, 138) = _ := fun d => x_t27 (d := d) (J := J) (T := T) (n := k) hx (by omega) (fun j hj => ⟨(hT j hj).1, (hT j hj).2.1⟩) k 0 (by omega)
    have xT : ∀ d, am_E (d + 1) 30 0 [(0, .ref 57), (1, .ref 4), (2, .int (am_i (2 * k : Nat)))] [] (I, J, R, 138) = some (some (.int (am_i 1)), (am_up (am_cp I 4 0 58 0 (2 * k)) 57 1 (am_i k), J, R, 138)) := fun d => by
      rw [sg_X4_take_0]
      simp (disch := first | assumption | omega) only [rX hx, ly_csx, ly_cax, ly_cf, ly_kd, ly_ln, ↓Bool.cond_decide, cond_true, cond_false, ↓bI_p, ↓bV_p, ↓bL_p, bIJ_s, bVJ_s, bLJ_s, ↓am_let_s, Nat.blt, Nat.ble, Bool.and_true, Bool.true_and, Bool.and_self, Int.cast_ofNat_Int, nz, em, tk, if_pos q4, am_i_add, am_i_sub, am_i_mul, am_ok_i, am_i_cl, n_lt, n_le, n_eq, n_lt0, n_le0, n_0lt, n_0le, n_eq0, ne_eq, ↓reduceIte, not_true_eq_false, not_false_eq_true, and_true, true_and, and_false, false_and, eq_T, eq_F, lt_T, lt_F, le_T, le_F, qn_T, qn_F, and_F, b01_T, b01_F, e_isIn, Int32.toInt_toInt64, am_i_toInt, am_l_toInt, Int.toNat_natCast, Int.reduceToNat, Int.reduceAdd, Int.reduceSub, Int.reduceMul, Int.reduceNeg, Nat.reduceAdd, Nat.reduceMul, Nat.add_zero, Nat.mul_zero, Nat.zero_add, am_zb0, am_zb1, q3]
    rw [sg_X11_see_0]
    simp (disch := first | assumption | omega) only [rX hx, ly_csx, ly_cax, ly_cf, ly_kd, ly_ln, ↓Bool.cond_decide, cond_true, cond_false, ↓bI_p, ↓bV_p, ↓bL_p, bIJ_s, bVJ_s, bLJ_s, ↓am_let_s, Nat.blt, Nat.ble, Bool.and_true, Bool.true_and, Bool.and_self, Int.cast_ofNat_Int, am_i_add, am_i_sub, am_i_mul, am_ok_i, am_i_cl, n_lt, n_le, n_eq, n_lt0, n_le0, n_0lt, n_0le, n_eq0, ne_eq, ↓reduceIte, not_true_eq_false, not_false_eq_true, and_true, true_and, and_false, false_and, eq_T, eq_F, lt_T, lt_F, le_T, le_F, qn_T, qn_F, and_F, b01_T, b01_F, e_isIn, Int32.toInt_toInt64, am_i_toInt, am_l_toInt, Int.toNat_natCast, Int.reduceToNat, Int.reduceAdd, Int.reduceSub, Int.reduceMul, Int.reduceNeg, Nat.reduceAdd, Nat.reduceMul, Nat.add_zero, Nat.mul_zero, Nat.zero_add, am_zb0, am_zb1, xH, q0, t1, xT]
    have g : ∀ q j, q ≠ 3 → ¬ (q = 57 ∧ j = 1) → q ≠ 58 → am_up (am_up (am_cp I 4 0 58 0 (2 * k)) 57 1 (am_i k)) 3 1 (am_i 0) q j = I q j := fun q j e1 e2 e3 => by rw [am_up_o (by omega), am_up_o e2, am_cp_ap, if_neg e3]
    have g58 : ∀ j, j < 2 * k → am_up (am_up (am_cp I 4 0 58 0 (2 * k)) 57 1 (am_i k)) 3 1 (am_i 0) 58 j = am_i (T j) := fun j hj => by
      rw [am_up_o (by omega), am_up_o (by omega), am_cp_ap, if_pos rfl]
      unfold va_cpy
      rw [if_pos (by omega), Nat.sub_zero, Nat.zero_add]
      exact (hT j hj).2.1
    have g57 : am_up (am_up (am_cp I 4 0 58 0 (2 * k)) 57 1 (am_i k)) 3 1 (am_i 0) 57 1 = am_i k := by rw [am_up_o (by omega), am_up_e]
    have g3 : am_up (am_up (am_cp I 4 0 58 0 (2 * k)) 57 1 (am_i k)) 3 1 (am_i 0) 3 1 = am_i 0 := am_up_e
    have g317 : ∀ j, j ≠ 1 → am_up (am_up (am_cp I 4 0 58 0 (2 * k)) 57 1 (am_i k)) 3 1 (am_i 0) 3 j = I 3 j := fun j e => by rw [am_up_o (by omega), am_up_o (by omega), am_cp_ap, if_neg (by omega)]
    generalize hI1 : am_up (am_up (am_cp I 4 0 58 0 (2 * k)) 57 1 (am_i k)) 3 1 (am_i 0) = I1 at *
    refine Wp_r ⟨I1, J, R, by rw [g57], rfl, funext (fun j => g 1 j (by omega) (by omega) (by omega)), rfl, ?_⟩
    obtain ⟨I2, p1, p2, p3, p4⟩ := m_s100 (d := d + 2) (J := J) (R := R) (n := k) hm (by omega) (2 * k) 0 (am_up I1 64 1 (am_i 0)) (by omega)
    have p1' : am_E (d + 3) 241 100 [(0, .ref 64), (1, .int (am_i (2 * k : Nat))), (3, .int (am_i 0))] [] (am_up I1 64 1 (am_i 0), J, R, 138) = _ := p1
    have s43 : am_E (d + 3) 241 43 [(0, .ref 64), (1, .int (am_i (2 * k : Nat))), (2, .int (am_i 1)), (3, .int (am_i 0))] [] (am_up I1 64 1 (am_i 0), J, R, 138) = _ := m_s43 (d := d + 2) (J := J) (T := T) (n := k) hm (by omega) (fun j hj => ⟨(hT j hj).1, by rw [am_up_o (by omega), g _ _ (by omega) (by omega) (by omega)]; exact (hT j hj).2.2⟩) k 0 (by omega)
    have ed' : am_i ((2 * k : Nat) : Int) / am_i 2 = am_i k := by rw [ed, show 2 * k / 2 = k by omega]
    have e50 : am_up I1 64 1 (am_i 0) 64 50 = am_i 1 := by rw [am_up_o (by omega), g _ _ (by omega) (by omega) (by omega), mS, if_neg q0]
    have e1 : I1 64 1 = am_i (2 * k : Nat) := by rw [g _ _ (by omega) (by omega) (by omega)]; exact t2
    have cm : am_E (d + 3) 241 0 [(0, .ref 64)] [] (I1, J, R, 138) = some (some (.int (am_i k)), (I2, J, R, 138)) := by
      rw [sg_X12_see_0]
      simp (disch := first | assumption | omega) only [rM hm, ly_csm, ly_cam, ly_cf, ly_kd, ly_ln, ↓Bool.cond_decide, cond_true, cond_false, ↓bI_p, ↓bV_p, ↓bL_p, bIJ_s, bVJ_s, bLJ_s, ↓am_let_s, Nat.blt, Nat.ble, Bool.and_true, Bool.true_and, Bool.and_self, Int.cast_ofNat_Int, nz, e1, e50, em, ed', s43, if_pos q4, am_i_add, am_i_sub, am_i_mul, am_ok_i, am_i_cl, n_lt, n_le, n_eq, n_lt0, n_le0, n_0lt, n_0le, n_eq0, ne_eq, ↓reduceIte, not_true_eq_false, not_false_eq_true, and_true, true_and, and_false, false_and, eq_T, eq_F, lt_T, lt_F, le_T, le_F, qn_T, qn_F, and_F, b01_T, b01_F, e_isIn, Int32.toInt_toInt64, am_i_toInt, am_l_toInt, Int.toNat_natCast, Int.reduceToNat, Int.reduceAdd, Int.reduceSub, Int.reduceMul, Int.reduceNeg, Nat.reduceAdd, Nat.reduceMul, Nat.add_zero, Nat.mul_zero, Nat.zero_add, am_zb0, am_zb1, q3, sg_X12_see_88, p1']
    have z : ∀ q j, ¬ xC q j → I2 q j = I q j := fun q j e => by
      unfold xC at e
      rw [p4 q j (by omega) (by omega), am_up_o (by omega)]
      by_cases c3 : q = 3
      · rw [c3]
        exact g317 j (by omega)
      · exact g q j c3 (by omega) (by omega)
    refine Wp_e cm (Wp_r ⟨I2, J, R, rfl, rfl, vV_x hV0 (fun q j _ e => z q j e) (fun _ _ _ _ => rfl) (rR_r hmu) ⟨0, by omega, ?_, ?_, fun j hj => absurd hj (by omega)⟩ (fun j hj => ?_) ⟨k, by omega, ?_, p2, fun j hj => ?_⟩⟩)
    · rw [p4 _ _ (by omega) (by omega), am_up_o (by omega)]; exact g3
    · rw [p4 _ _ (by omega) (by omega), am_up_e]; rfl
    · rw [p4 _ _ (by omega) (by omega), am_up_o (by omega), g _ _ (by omega) (by omega) (by omega), p4 _ _ (by omega) (by omega), am_up_o (by omega), g _ _ (by omega) (by omega) (by omega)]
      exact hr j hj
    · rw [p4 _ _ (by omega) (by omega), am_up_o (by omega)]; exact g57
    · obtain ⟨v1, v2⟩ := tkF_t k 0 q4 j (by omega) (by omega)
      refine ⟨T (2 * j), T (2 * j + 1), v1, v2, ?_, ?_, ?_, ?_⟩
      · rw [p4 _ _ (by omega) (by omega), am_up_o (by omega)]; exact g58 _ (by omega)
      · rw [p4 _ _ (by omega) (by omega), am_up_o (by omega)]; exact g58 _ (by omega)
      · rw [p3 _ (by omega) (by omega), am_up_o (by omega), g _ _ (by omega) (by omega) (by omega)]; exact (hT _ (by omega)).2.2
      · rw [p3 _ (by omega) (by omega), am_up_o (by omega), g _ _ (by omega) (by omega) (by omega)]; exact (hT _ (by omega)).2.2
  · refine ⟨am_i (-1), ?_⟩
    have g : ∀ q j, ¬ (q = 3 ∧ j = 1) → q ≠ 63 → am_up (am_up I 3 1 (am_i 0)) 63 1 (I 63 1 + am_i 1) q j = I q j := fun q j e1 e2 => by rw [am_up_o (by omega), am_up_o e1]
    have xF : ∀ d, am_E (d + 1) 155 0 [(0, .ref 3), (1, .int (am_i 1))] [] (am_up I 3 1 (am_i 0), J, R, 138) = some (some (.int (am_i 0)), (am_up (am_up I 3 1 (am_i 0)) 63 1 (I 63 1 + am_i 1), J, R, 138)) := fun d => e_refuse d 1 (by decide) (am_up I 3 1 (am_i 0)) J R hx
    have f29 : am_E (d + 3) 120 29 [(0, .ref 3)] [] (I, J, R, 138) = some (some (.int (am_i (-1))), (am_up (am_up I 3 1 (am_i 0)) 63 1 (I 63 1 + am_i 1), J, R, 138)) := by
      rw [sg_X11_see_29]
      simp (disch := first | assumption | omega) only [rX hx, ly_csx, ly_cax, ly_cf, ly_kd, ly_ln, ↓Bool.cond_decide, cond_true, cond_false, ↓bI_p, ↓bV_p, ↓bL_p, bIJ_s, bVJ_s, bLJ_s, ↓am_let_s, Nat.blt, Nat.ble, Bool.and_true, Bool.true_and, Bool.and_self, Int.cast_ofNat_Int, am_i_add, am_i_sub, am_i_mul, am_ok_i, am_i_cl, n_lt, n_le, n_eq, n_lt0, n_le0, n_0lt, n_0le, n_eq0, ne_eq, ↓reduceIte, not_true_eq_false, not_false_eq_true, and_true, true_and, and_false, false_and, eq_T, eq_F, lt_T, lt_F, le_T, le_F, qn_T, qn_F, and_F, b01_T, b01_F, e_isIn, Int32.toInt_toInt64, am_i_toInt, am_l_toInt, Int.toNat_natCast, Int.reduceToNat, Int.reduceAdd, Int.reduceSub, Int.reduceMul, Int.reduceNeg, Nat.reduceAdd, Nat.reduceMul, Nat.add_zero, Nat.mul_zero, Nat.zero_add, am_zb0, am_zb1, xF]
    have cl : am_E (d + 3) 120 0 [(0, .ref 3)] [] (I, J, R, 138) = some (some (.int (am_i (-1))), (am_up (am_up I 3 1 (am_i 0)) 63 1 (I 63 1 + am_i 1), J, R, 138)) := by
      rw [sg_X11_see_0]
      by_cases q0 : last = 0
      · simp (disch := first | assumption | omega) only [rX hx, ly_csx, ly_cax, ly_cf, ly_kd, ly_ln, ↓Bool.cond_decide, cond_true, cond_false, ↓bI_p, ↓bV_p, ↓bL_p, bIJ_s, bVJ_s, bLJ_s, ↓am_let_s, Nat.blt, Nat.ble, Bool.and_true, Bool.true_and, Bool.and_self, Int.cast_ofNat_Int, am_i_add, am_i_sub, am_i_mul, am_ok_i, am_i_cl, n_lt, n_le, n_eq, n_lt0, n_le0, n_0lt, n_0le, n_eq0, ne_eq, ↓reduceIte, not_true_eq_false, not_false_eq_true, and_true, true_and, and_false, false_and, eq_T, eq_F, lt_T, lt_F, le_T, le_F, qn_T, qn_F, and_F, b01_T, b01_F, e_isIn, Int32.toInt_toInt64, am_i_toInt, am_l_toInt, Int.toNat_natCast, Int.reduceToNat, Int.reduceAdd, Int.reduceSub, Int.reduceMul, Int.reduceNeg, Nat.reduceAdd, Nat.reduceMul, Nat.add_zero, Nat.mul_zero, Nat.zero_add, am_zb0, am_zb1, xH, q0, f29]
      · have xT : ∀ d, am_E (d + 1) 30 0 [(0, .ref 57), (1, .ref 4), (2, .int (am_i n))] [] (I, J, R, 138) = some (some (.int (am_i 0)), (I, J, R, 138)) := fun d => by
          rw [sg_X4_take_0]
          by_cases q1 : n < 2
          · simp (disch := first | assumption | omega) only [rX hx, ly_csx, ly_cax, ly_cf, ly_kd, ly_ln, ↓Bool.cond_decide, cond_true, cond_false, ↓bI_p, ↓bV_p, ↓bL_p, bIJ_s, bVJ_s, bLJ_s, ↓am_let_s, Nat.blt, Nat.ble, Bool.and_true, Bool.true_and, Bool.and_self, Int.cast_ofNat_Int, am_i_add, am_i_sub, am_i_mul, am_ok_i, am_i_cl, n_lt, n_le, n_eq, n_lt0, n_le0, n_0lt, n_0le, n_eq0, ne_eq, ↓reduceIte, not_true_eq_false, not_false_eq_true, and_true, true_and, and_false, false_and, eq_T, eq_F, lt_T, lt_F, le_T, le_F, qn_T, qn_F, and_F, b01_T, b01_F, e_isIn, Int32.toInt_toInt64, am_i_toInt, am_l_toInt, Int.toNat_natCast, Int.reduceToNat, Int.reduceAdd, Int.reduceSub, Int.reduceMul, Int.reduceNeg, Nat.reduceAdd, Nat.reduceMul, Nat.add_zero, Nat.mul_zero, Nat.zero_add, am_zb0, am_zb1, sg_X4_take_23]
          · by_cases q2 : 32 < n
            · simp (disch := first | assumption | omega) only [rX hx, ly_csx, ly_cax, ly_cf, ly_kd, ly_ln, ↓Bool.cond_decide, cond_true, cond_false, ↓bI_p, ↓bV_p, ↓bL_p, bIJ_s, bVJ_s, bLJ_s, ↓am_let_s, Nat.blt, Nat.ble, Bool.and_true, Bool.true_and, Bool.and_self, Int.cast_ofNat_Int, am_i_add, am_i_sub, am_i_mul, am_ok_i, am_i_cl, n_lt, n_le, n_eq, n_lt0, n_le0, n_0lt, n_0le, n_eq0, ne_eq, ↓reduceIte, not_true_eq_false, not_false_eq_true, and_true, true_and, and_false, false_and, eq_T, eq_F, lt_T, lt_F, le_T, le_F, qn_T, qn_F, and_F, b01_T, b01_F, e_isIn, Int32.toInt_toInt64, am_i_toInt, am_l_toInt, Int.toNat_natCast, Int.reduceToNat, Int.reduceAdd, Int.reduceSub, Int.reduceMul, Int.reduceNeg, Nat.reduceAdd, Nat.reduceMul, Nat.add_zero, Nat.mul_zero, Nat.zero_add, am_zb0, am_zb1, sg_X4_take_23]
            · by_cases q3 : n % 2 = 0
              · obtain ⟨k, rfl⟩ : ∃ k, n = 2 * k := ⟨n / 2, by omega⟩
                have tk : ∀ d, am_E (d + 1) 30 27 [(0, .ref 57), (1, .ref 4), (2, .int (am_i (2 * k : Nat))), (3, .int (am_i 0))] [] (I, J, R, 138) = _ := fun d => x_t27 (d := d) (J := J) (T := T) (n := k) hx (by omega) (fun j hj => ⟨(hT j hj).1, (hT j hj).2.1⟩) k 0 (by omega)
                have q4 : ¬ tkF T k 0 = true := fun e => hq ⟨⟨q0, by omega, by omega, q3⟩, by rw [show 2 * k / 2 = k by omega]; exact e⟩
                simp (disch := first | assumption | omega) only [rX hx, ly_csx, ly_cax, ly_cf, ly_kd, ly_ln, ↓Bool.cond_decide, cond_true, cond_false, ↓bI_p, ↓bV_p, ↓bL_p, bIJ_s, bVJ_s, bLJ_s, ↓am_let_s, Nat.blt, Nat.ble, Bool.and_true, Bool.true_and, Bool.and_self, Int.cast_ofNat_Int, nz, em, tk, if_neg q4, am_i_add, am_i_sub, am_i_mul, am_ok_i, am_i_cl, n_lt, n_le, n_eq, n_lt0, n_le0, n_0lt, n_0le, n_eq0, ne_eq, ↓reduceIte, not_true_eq_false, not_false_eq_true, and_true, true_and, and_false, false_and, eq_T, eq_F, lt_T, lt_F, le_T, le_F, qn_T, qn_F, and_F, b01_T, b01_F, e_isIn, Int32.toInt_toInt64, am_i_toInt, am_l_toInt, Int.toNat_natCast, Int.reduceToNat, Int.reduceAdd, Int.reduceSub, Int.reduceMul, Int.reduceNeg, Nat.reduceAdd, Nat.reduceMul, Nat.add_zero, Nat.mul_zero, Nat.zero_add, am_zb0, am_zb1, q3]
              · simp (disch := first | assumption | omega) only [rX hx, ly_csx, ly_cax, ly_cf, ly_kd, ly_ln, ↓Bool.cond_decide, cond_true, cond_false, ↓bI_p, ↓bV_p, ↓bL_p, bIJ_s, bVJ_s, bLJ_s, ↓am_let_s, Nat.blt, Nat.ble, Bool.and_true, Bool.true_and, Bool.and_self, Int.cast_ofNat_Int, nz, em, am_i_add, am_i_sub, am_i_mul, am_ok_i, am_i_cl, n_lt, n_le, n_eq, n_lt0, n_le0, n_0lt, n_0le, n_eq0, ne_eq, ↓reduceIte, not_true_eq_false, not_false_eq_true, and_true, true_and, and_false, false_and, eq_T, eq_F, lt_T, lt_F, le_T, le_F, qn_T, qn_F, and_F, b01_T, b01_F, e_isIn, Int32.toInt_toInt64, am_i_toInt, am_l_toInt, Int.toNat_natCast, Int.reduceToNat, Int.reduceAdd, Int.reduceSub, Int.reduceMul, Int.reduceNeg, Nat.reduceAdd, Nat.reduceMul, Nat.add_zero, Nat.mul_zero, Nat.zero_add, am_zb0, am_zb1, sg_X4_take_23]
        simp (disch := first | assumption | omega) only [rX hx, ly_csx, ly_cax, ly_cf, ly_kd, ly_ln, ↓Bool.cond_decide, cond_true, cond_false, ↓bI_p, ↓bV_p, ↓bL_p, bIJ_s, bVJ_s, bLJ_s, ↓am_let_s, Nat.blt, Nat.ble, Bool.and_true, Bool.true_and, Bool.and_self, Int.cast_ofNat_Int, am_i_add, am_i_sub, am_i_mul, am_ok_i, am_i_cl, n_lt, n_le, n_eq, n_lt0, n_le0, n_0lt, n_0le, n_eq0, ne_eq, ↓reduceIte, not_true_eq_false, not_false_eq_true, and_true, true_and, and_false, false_and, eq_T, eq_F, lt_T, lt_F, le_T, le_F, qn_T, qn_F, and_F, b01_T, b01_F, e_isIn, Int32.toInt_toInt64, am_i_toInt, am_l_toInt, Int.toNat_natCast, Int.reduceToNat, Int.reduceAdd, Int.reduceSub, Int.reduceMul, Int.reduceNeg, Nat.reduceAdd, Nat.reduceMul, Nat.add_zero, Nat.mul_zero, Nat.zero_add, am_zb0, am_zb1, xH, q0, t1, xT, f29]
    refine Wp_e cl (Wp_r ⟨_, J, R, rfl, rfl, funext (fun j => g 1 j (by omega) (by omega)), rfl, ?_⟩)
    have g63 : am_up (am_up I 3 1 (am_i 0)) 63 1 (I 63 1 + am_i 1) 63 1 = I 63 1 + am_i 1 := am_up_e
    have g63o : ∀ j, j ≠ 1 → am_up (am_up I 3 1 (am_i 0)) 63 1 (I 63 1 + am_i 1) 63 j = I 63 j := fun j e => by rw [am_up_o (by omega), am_up_o (by omega)]
    have g31 : am_up (am_up I 3 1 (am_i 0)) 63 1 (I 63 1 + am_i 1) 3 1 = am_i 0 := by rw [am_up_o (by omega), am_up_e]
    generalize am_up (am_up I 3 1 (am_i 0)) 63 1 (I 63 1 + am_i 1) = I1 at *
    have e1 : I1 64 1 = am_i n := by rw [g _ _ (by omega) (by omega)]; exact t2
    have e50 : am_up I1 64 1 (am_i 0) 64 50 = am_i (if last = 0 then 0 else 1) := by rw [am_up_o (by omega), g _ _ (by omega) (by omega), mS]
    have mF : ∀ d, am_E (d + 1) 240 0 [(0, .ref 64), (1, .int (am_i 1))] [] (am_up I1 64 1 (am_i 0), J, R, 138) = some (some (.int (am_i (-1))), (am_up (am_up I1 64 1 (am_i 0)) 66 1 (I 66 1 + am_i 1), J, R, 138)) := fun d => by
      have e66 : I1 66 1 = I 66 1 := g _ _ (by omega) (by omega)
      rw [sg_X12_refuses_0]
      simp (disch := first | assumption | omega) only [rM hm, ly_csm, ly_cam, ly_cf, ly_kd, ly_ln, ↓Bool.cond_decide, cond_true, cond_false, ↓bI_p, ↓bV_p, ↓bL_p, bIJ_s, bVJ_s, bLJ_s, ↓am_let_s, Nat.blt, Nat.ble, Bool.and_true, Bool.true_and, Bool.and_self, Int.cast_ofNat_Int, am_i_add, am_i_sub, am_i_mul, am_ok_i, am_i_cl, n_lt, n_le, n_eq, n_lt0, n_le0, n_0lt, n_0le, n_eq0, ne_eq, ↓reduceIte, not_true_eq_false, not_false_eq_true, and_true, true_and, and_false, false_and, eq_T, eq_F, lt_T, lt_F, le_T, le_F, qn_T, qn_F, and_F, b01_T, b01_F, e_isIn, Int32.toInt_toInt64, am_i_toInt, am_l_toInt, Int.toNat_natCast, Int.reduceToNat, Int.reduceAdd, Int.reduceSub, Int.reduceMul, Int.reduceNeg, Nat.reduceAdd, Nat.reduceMul, Nat.add_zero, Nat.mul_zero, Nat.zero_add, am_zb0, am_zb1, am_up_o, e66]
    have f88 : am_E (d + 3) 241 88 [(0, .ref 64), (1, .int (am_i n)), (2, .int (am_i 0))] [] (am_up I1 64 1 (am_i 0), J, R, 138) = some (some (.int (am_i (-1))), (am_up (am_up I1 64 1 (am_i 0)) 66 1 (I 66 1 + am_i 1), J, R, 138)) := by
      rw [sg_X12_see_88]
      simp (disch := first | assumption | omega) only [rM hm, ly_csm, ly_cam, ly_cf, ly_kd, ly_ln, ↓Bool.cond_decide, cond_true, cond_false, ↓bI_p, ↓bV_p, ↓bL_p, bIJ_s, bVJ_s, bLJ_s, ↓am_let_s, Nat.blt, Nat.ble, Bool.and_true, Bool.true_and, Bool.and_self, Int.cast_ofNat_Int, am_i_add, am_i_sub, am_i_mul, am_ok_i, am_i_cl, n_lt, n_le, n_eq, n_lt0, n_le0, n_0lt, n_0le, n_eq0, ne_eq, ↓reduceIte, not_true_eq_false, not_false_eq_true, and_true, true_and, and_false, false_and, eq_T, eq_F, lt_T, lt_F, le_T, le_F, qn_T, qn_F, and_F, b01_T, b01_F, e_isIn, Int32.toInt_toInt64, am_i_toInt, am_l_toInt, Int.toNat_natCast, Int.reduceToNat, Int.reduceAdd, Int.reduceSub, Int.reduceMul, Int.reduceNeg, Nat.reduceAdd, Nat.reduceMul, Nat.add_zero, Nat.mul_zero, Nat.zero_add, am_zb0, am_zb1, mF]
    have f39 : am_E (d + 3) 241 39 [(0, .ref 64), (1, .int (am_i n))] [] (am_up I1 64 1 (am_i 0), J, R, 138) = some (some (.int (am_i (-1))), (am_up (am_up I1 64 1 (am_i 0)) 66 1 (I 66 1 + am_i 1), J, R, 138)) := by
      rw [sg_X12_see_39, sg_X12_see_43]
      by_cases q : n = 0
      · simp (disch := first | assumption | omega) only [rM hm, ly_csm, ly_cam, ly_cf, ly_kd, ly_ln, ↓Bool.cond_decide, cond_true, cond_false, ↓bI_p, ↓bV_p, ↓bL_p, bIJ_s, bVJ_s, bLJ_s, ↓am_let_s, Nat.blt, Nat.ble, Bool.and_true, Bool.true_and, Bool.and_self, Int.cast_ofNat_Int, am_i_add, am_i_sub, am_i_mul, am_ok_i, am_i_cl, n_lt, n_le, n_eq, n_lt0, n_le0, n_0lt, n_0le, n_eq0, ne_eq, ↓reduceIte, not_true_eq_false, not_false_eq_true, and_true, true_and, and_false, false_and, eq_T, eq_F, lt_T, lt_F, le_T, le_F, qn_T, qn_F, and_F, b01_T, b01_F, e_isIn, Int32.toInt_toInt64, am_i_toInt, am_l_toInt, Int.toNat_natCast, Int.reduceToNat, Int.reduceAdd, Int.reduceSub, Int.reduceMul, Int.reduceNeg, Nat.reduceAdd, Nat.reduceMul, Nat.add_zero, Nat.mul_zero, Nat.zero_add, am_zb0, am_zb1, f88]
      · simp (disch := first | assumption | omega) only [rM hm, ly_csm, ly_cam, ly_cf, ly_kd, ly_ln, ↓Bool.cond_decide, cond_true, cond_false, ↓bI_p, ↓bV_p, ↓bL_p, bIJ_s, bVJ_s, bLJ_s, ↓am_let_s, Nat.blt, Nat.ble, Bool.and_true, Bool.true_and, Bool.and_self, Int.cast_ofNat_Int, am_i_add, am_i_sub, am_i_mul, am_ok_i, am_i_cl, n_lt, n_le, n_eq, n_lt0, n_le0, n_0lt, n_0le, n_eq0, ne_eq, ↓reduceIte, not_true_eq_false, not_false_eq_true, and_true, true_and, and_false, false_and, eq_T, eq_F, lt_T, lt_F, le_T, le_F, qn_T, qn_F, and_F, b01_T, b01_F, e_isIn, Int32.toInt_toInt64, am_i_toInt, am_l_toInt, Int.toNat_natCast, Int.reduceToNat, Int.reduceAdd, Int.reduceSub, Int.reduceMul, Int.reduceNeg, Nat.reduceAdd, Nat.reduceMul, Nat.add_zero, Nat.mul_zero, Nat.zero_add, am_zb0, am_zb1, f88]
    have cm : am_E (d + 3) 241 0 [(0, .ref 64)] [] (I1, J, R, 138) = some (some (.int (am_i (-1))), (am_up (am_up I1 64 1 (am_i 0)) 66 1 (I 66 1 + am_i 1), J, R, 138)) := by
      rw [sg_X12_see_0]
      by_cases q0 : last = 0
      · rw [if_pos q0] at e50
        simp (disch := first | assumption | omega) only [rM hm, ly_csm, ly_cam, ly_cf, ly_kd, ly_ln, ↓Bool.cond_decide, cond_true, cond_false, ↓bI_p, ↓bV_p, ↓bL_p, bIJ_s, bVJ_s, bLJ_s, ↓am_let_s, Nat.blt, Nat.ble, Bool.and_true, Bool.true_and, Bool.and_self, Int.cast_ofNat_Int, e1, e50, am_i_add, am_i_sub, am_i_mul, am_ok_i, am_i_cl, n_lt, n_le, n_eq, n_lt0, n_le0, n_0lt, n_0le, n_eq0, ne_eq, ↓reduceIte, not_true_eq_false, not_false_eq_true, and_true, true_and, and_false, false_and, eq_T, eq_F, lt_T, lt_F, le_T, le_F, qn_T, qn_F, and_F, b01_T, b01_F, e_isIn, Int32.toInt_toInt64, am_i_toInt, am_l_toInt, Int.toNat_natCast, Int.reduceToNat, Int.reduceAdd, Int.reduceSub, Int.reduceMul, Int.reduceNeg, Nat.reduceAdd, Nat.reduceMul, Nat.add_zero, Nat.mul_zero, Nat.zero_add, am_zb0, am_zb1, f39]
      · rw [if_neg q0] at e50
        by_cases q1 : n = 0
        · simp (disch := first | assumption | omega) only [rM hm, ly_csm, ly_cam, ly_cf, ly_kd, ly_ln, ↓Bool.cond_decide, cond_true, cond_false, ↓bI_p, ↓bV_p, ↓bL_p, bIJ_s, bVJ_s, bLJ_s, ↓am_let_s, Nat.blt, Nat.ble, Bool.and_true, Bool.true_and, Bool.and_self, Int.cast_ofNat_Int, e1, e50, am_i_add, am_i_sub, am_i_mul, am_ok_i, am_i_cl, n_lt, n_le, n_eq, n_lt0, n_le0, n_0lt, n_0le, n_eq0, ne_eq, ↓reduceIte, not_true_eq_false, not_false_eq_true, and_true, true_and, and_false, false_and, eq_T, eq_F, lt_T, lt_F, le_T, le_F, qn_T, qn_F, and_F, b01_T, b01_F, e_isIn, Int32.toInt_toInt64, am_i_toInt, am_l_toInt, Int.toNat_natCast, Int.reduceToNat, Int.reduceAdd, Int.reduceSub, Int.reduceMul, Int.reduceNeg, Nat.reduceAdd, Nat.reduceMul, Nat.add_zero, Nat.mul_zero, Nat.zero_add, am_zb0, am_zb1, f39]
        · by_cases q3 : n % 2 = 0
          · obtain ⟨k, rfl⟩ : ∃ k, n = 2 * k := ⟨n / 2, by omega⟩
            have ed' : am_i ((2 * k : Nat) : Int) / am_i 2 = am_i k := by rw [ed, show 2 * k / 2 = k by omega]
            by_cases q2 : 16 < k
            · simp (disch := first | assumption | omega) only [rM hm, ly_csm, ly_cam, ly_cf, ly_kd, ly_ln, ↓Bool.cond_decide, cond_true, cond_false, ↓bI_p, ↓bV_p, ↓bL_p, bIJ_s, bVJ_s, bLJ_s, ↓am_let_s, Nat.blt, Nat.ble, Bool.and_true, Bool.true_and, Bool.and_self, Int.cast_ofNat_Int, nz, e1, e50, em, ed', am_i_add, am_i_sub, am_i_mul, am_ok_i, am_i_cl, n_lt, n_le, n_eq, n_lt0, n_le0, n_0lt, n_0le, n_eq0, ne_eq, ↓reduceIte, not_true_eq_false, not_false_eq_true, and_true, true_and, and_false, false_and, eq_T, eq_F, lt_T, lt_F, le_T, le_F, qn_T, qn_F, and_F, b01_T, b01_F, e_isIn, Int32.toInt_toInt64, am_i_toInt, am_l_toInt, Int.toNat_natCast, Int.reduceToNat, Int.reduceAdd, Int.reduceSub, Int.reduceMul, Int.reduceNeg, Nat.reduceAdd, Nat.reduceMul, Nat.add_zero, Nat.mul_zero, Nat.zero_add, am_zb0, am_zb1, q3, f39]
            · have q4 : ¬ tkF T k 0 = true := fun e => hq ⟨⟨q0, by omega, by omega, q3⟩, by rw [show 2 * k / 2 = k by omega]; exact e⟩
              have s43 : am_E (d + 3) 241 43 [(0, .ref 64), (1, .int (am_i (2 * k : Nat))), (2, .int (am_i 1)), (3, .int (am_i 0))] [] (am_up I1 64 1 (am_i 0), J, R, 138) = _ := m_s43 (d := d + 2) (J := J) (T := T) (n := k) hm (by omega) (fun j hj => ⟨(hT j hj).1, by rw [am_up_o (by omega), g _ _ (by omega) (by omega)]; exact (hT j hj).2.2⟩) k 0 (by omega)
              rw [if_neg q4] at s43
              simp (disch := first | assumption | omega) only [rM hm, ly_csm, ly_cam, ly_cf, ly_kd, ly_ln, ↓Bool.cond_decide, cond_true, cond_false, ↓bI_p, ↓bV_p, ↓bL_p, bIJ_s, bVJ_s, bLJ_s, ↓am_let_s, Nat.blt, Nat.ble, Bool.and_true, Bool.true_and, Bool.and_self, Int.cast_ofNat_Int, nz, e1, e50, em, ed', s43, am_i_add, am_i_sub, am_i_mul, am_ok_i, am_i_cl, n_lt, n_le, n_eq, n_lt0, n_le0, n_0lt, n_0le, n_eq0, ne_eq, ↓reduceIte, not_true_eq_false, not_false_eq_true, and_true, true_and, and_false, false_and, eq_T, eq_F, lt_T, lt_F, le_T, le_F, qn_T, qn_F, and_F, b01_T, b01_F, e_isIn, Int32.toInt_toInt64, am_i_toInt, am_l_toInt, Int.toNat_natCast, Int.reduceToNat, Int.reduceAdd, Int.reduceSub, Int.reduceMul, Int.reduceNeg, Nat.reduceAdd, Nat.reduceMul, Nat.add_zero, Nat.mul_zero, Nat.zero_add, am_zb0, am_zb1, q3, f88]
          · simp (disch := first | assumption | omega) only [rM hm, ly_csm, ly_cam, ly_cf, ly_kd, ly_ln, ↓Bool.cond_decide, cond_true, cond_false, ↓bI_p, ↓bV_p, ↓bL_p, bIJ_s, bVJ_s, bLJ_s, ↓am_let_s, Nat.blt, Nat.ble, Bool.and_true, Bool.true_and, Bool.and_self, Int.cast_ofNat_Int, nz, e1, e50, em, am_i_add, am_i_sub, am_i_mul, am_ok_i, am_i_cl, n_lt, n_le, n_eq, n_lt0, n_le0, n_0lt, n_0le, n_eq0, ne_eq, ↓reduceIte, not_true_eq_false, not_false_eq_true, and_true, true_and, and_false, false_and, eq_T, eq_F, lt_T, lt_F, le_T, le_F, qn_T, qn_F, and_F, b01_T, b01_F, e_isIn, Int32.toInt_toInt64, am_i_toInt, am_l_toInt, Int.toNat_natCast, Int.reduceToNat, Int.reduceAdd, Int.reduceSub, Int.reduceMul, Int.reduceNeg, Nat.reduceAdd, Nat.reduceMul, Nat.add_zero, Nat.mul_zero, Nat.zero_add, am_zb0, am_zb1, f39]
    refine Wp_e cm (Wp_r ⟨_, J, R, rfl, rfl, vV_x hV0 (fun q j _ e => ?_) (fun _ _ _ _ => rfl) (rR_r hmu) ⟨0, by omega, ?_, ?_, fun j hj => absurd hj (by omega)⟩ (fun j hj => ?_) ?_⟩)
    · unfold xC at e
      rw [am_up_o (by omega), am_up_o (by omega), g _ _ (by omega) (by omega)]
    · rw [am_up_o (by omega), am_up_o (by omega)]; exact g31
    · rw [am_up_o (by omega), am_up_e]; rfl
    · by_cases c : j = 1
      · subst c
        rw [am_up_o (by omega), am_up_o (by omega), g63, am_up_e, hr 1 (by omega)]
      · rw [am_up_o (by omega), am_up_o (by omega), g63o j c, am_up_o (by omega), am_up_o (by omega), g _ _ (by omega) (by omega)]
        exact hr j hj
    · exact vSeen_cg I _ (fun q j e => by
        unfold dSeen at e
        simp at e
        rw [am_up_o (by omega), am_up_o (by omega), g _ _ (by omega) (by omega)]) hs
end PSEE
