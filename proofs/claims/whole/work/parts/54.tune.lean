/-! ===== tune, rosin, raise, note ===== -/
section PACT
variable {L : Nat} {xs : Nat → Int32}
theorem e_xAmount {d : Nat} {M : am_Mem} {z : Int} (z1 : -2147483648 ≤ z) (z2 : z < 2147483648) : am_E (d + 1) 142 0 [(0, .int (am_i z))] [] M = some (some (.int (b01 (0 ≤ z ∧ z ≤ 99))), M) := by
  rw [sg_X11_isAmount_0]
  by_cases q : 0 ≤ z
  · by_cases q2 : z ≤ 99
    · rw [b01_t ⟨q, q2⟩]
      simp (disch := first | assumption | omega) only [am_i_add, am_i_sub, am_i_mul, am_ok_i, am_i_cl, n_lt, n_le, n_eq, n_lt0, n_le0, n_0lt, n_0le, n_eq0, ne_eq, ↓reduceIte, not_true_eq_false, not_false_eq_true, and_true, true_and, and_false, false_and, eq_T, eq_F, lt_T, lt_F, le_T, le_F, qn_T, qn_F, and_F, b01_T, b01_F, e_isIn, Int32.toInt_toInt64, am_i_toInt, am_l_toInt, Int.toNat_natCast, Int.reduceToNat, Int.reduceAdd, Int.reduceSub, Int.reduceMul, Int.reduceNeg, Nat.reduceAdd, Nat.reduceMul, Nat.add_zero, Nat.mul_zero, Nat.zero_add, am_zb0, am_zb1, ↓Bool.cond_decide, cond_true, cond_false, ↓am_let_s, ↓bI_p, bIJ_s, ↓bV_p, bVJ_s, ↓bL_p, bLJ_s, ly_cf, Bool.and_self, Bool.and_true, sg_X11_isAmount_14]
    · rw [b01_f (fun e => q2 e.2)]
      simp (disch := first | assumption | omega) only [am_i_add, am_i_sub, am_i_mul, am_ok_i, am_i_cl, n_lt, n_le, n_eq, n_lt0, n_le0, n_0lt, n_0le, n_eq0, ne_eq, ↓reduceIte, not_true_eq_false, not_false_eq_true, and_true, true_and, and_false, false_and, eq_T, eq_F, lt_T, lt_F, le_T, le_F, qn_T, qn_F, and_F, b01_T, b01_F, e_isIn, Int32.toInt_toInt64, am_i_toInt, am_l_toInt, Int.toNat_natCast, Int.reduceToNat, Int.reduceAdd, Int.reduceSub, Int.reduceMul, Int.reduceNeg, Nat.reduceAdd, Nat.reduceMul, Nat.add_zero, Nat.mul_zero, Nat.zero_add, am_zb0, am_zb1, ↓Bool.cond_decide, cond_true, cond_false, ↓am_let_s, ↓bI_p, bIJ_s, ↓bV_p, bVJ_s, ↓bL_p, bLJ_s, ly_cf, Bool.and_self, Bool.and_true, sg_X11_isAmount_14]
  · rw [b01_f (fun e => q e.1)]
    simp (disch := first | assumption | omega) only [am_i_add, am_i_sub, am_i_mul, am_ok_i, am_i_cl, n_lt, n_le, n_eq, n_lt0, n_le0, n_0lt, n_0le, n_eq0, ne_eq, ↓reduceIte, not_true_eq_false, not_false_eq_true, and_true, true_and, and_false, false_and, eq_T, eq_F, lt_T, lt_F, le_T, le_F, qn_T, qn_F, and_F, b01_T, b01_F, e_isIn, Int32.toInt_toInt64, am_i_toInt, am_l_toInt, Int.toNat_natCast, Int.reduceToNat, Int.reduceAdd, Int.reduceSub, Int.reduceMul, Int.reduceNeg, Nat.reduceAdd, Nat.reduceMul, Nat.add_zero, Nat.mul_zero, Nat.zero_add, am_zb0, am_zb1, ↓Bool.cond_decide, cond_true, cond_false, ↓am_let_s, ↓bI_p, bIJ_s, ↓bV_p, bVJ_s, ↓bL_p, bLJ_s, ly_cf, Bool.and_self, Bool.and_true, sg_X11_isAmount_14]
theorem e_set {d : Nat} {I : tI} {J : tJ} {R : tR} {b k : Int} {v : Int32} (hx : st_Rx R) (h0 : 0 ≤ b) (h1 : b < 6) (h2 : 0 ≤ k) (h3 : k < 11) : am_E (d + 1) 145 0 [(0, .ref 3), (1, .int (am_i b)), (2, .int (am_i k)), (3, .int v)] [] (I, J, R, 138) = some (none, (am_up I 31 (11 * b.toNat + k.toNat) v, J, R, 138)) := by
  have e : (b * 11 + k).toNat = 11 * b.toNat + k.toNat := by omega
  rw [sg_X11_setSlot_0]
  simp (disch := first | assumption | omega) only [rX hx, ly_csx, ly_cax, ly_cf, ly_kd, ly_ln, ↓Bool.cond_decide, cond_true, cond_false, ↓bI_p, ↓bV_p, ↓bL_p, bIJ_s, bVJ_s, bLJ_s, ↓am_let_s, Nat.blt, Nat.ble, Bool.and_true, Bool.true_and, Bool.and_self, Int.cast_ofNat_Int, am_i_add, am_i_sub, am_i_mul, am_ok_i, am_i_cl, n_lt, n_le, n_eq, n_lt0, n_le0, n_0lt, n_0le, n_eq0, ne_eq, ↓reduceIte, not_true_eq_false, not_false_eq_true, and_true, true_and, and_false, false_and, eq_T, eq_F, lt_T, lt_F, le_T, le_F, qn_T, qn_F, and_F, b01_T, b01_F, e_isIn, Int32.toInt_toInt64, am_i_toInt, am_l_toInt, Int.toNat_natCast, Int.reduceToNat, Int.reduceAdd, Int.reduceSub, Int.reduceMul, Int.reduceNeg, Nat.reduceAdd, Nat.reduceMul, Nat.add_zero, Nat.mul_zero, Nat.zero_add, am_zb0, am_zb1, e]
theorem p_tune (d : Nat) (a1 a2 : Int32) : pr_I (vV restW L xs) (d + 3) 123 251 [(1, .int a1), (2, .int a2)] := by
  refine pW_I ?_
  intro I J R hV
  have hV0 := hV
  obtain ⟨⟨h1, h2, hx, hm, hmu⟩, ht, hr, hf, hp, hs, hd, hw⟩ := hV
  obtain ⟨c, last, nb, nr, nw, wd, sq, K, nt, wf, fm, h4, hc, hB, hN, hF, ⟨h, s, ⟨hh, e66, g0, hbt⟩, ⟨ek, gk, hkp⟩, hKh⟩, hA, hX⟩ := hw
  obtain ⟨b1, b2, b3, b4, b5, b6, b7, b8, i0, m0, i1, m1, i2, m2, i3, m3, i4, m4, i5, m5, mS, mT, hnt, hky, hwf⟩ := hB
  obtain ⟨z, z1, z2, rfl⟩ := i32_z a1
  obtain ⟨w, w1, w2, rfl⟩ := i32_z a2
  have xB := fun d => e_xisBoat d (am_i z) nb c I J R hx h4 hc b3 i1
  have xM := fun d M => e_xAmount (d := d) (M := M) w1 w2
  by_cases hq : (0 ≤ z ∧ z < nb) ∧ (0 ≤ w ∧ w ≤ 99) ∧ ((s z.toNat).ti : Int) ≠ w
  · refine ⟨am_i 1, ?_⟩
    obtain ⟨b, rfl⟩ : ∃ n : Nat, z = n := ⟨z.toNat, by omega⟩
    have hb : b < nb := by omega
    have hnt6 : ∀ b, b < nb → nt b ≤ 6 := fun b hb => (hnt b hb).1
    obtain ⟨n6, n1, n2⟩ := hnt b hb
    obtain ⟨hO, hb1, hb2⟩ := hbt b hb
    have hBB : restB I c last nb nr nw wd sq nt wf := ⟨b1, b2, b3, b4, b5, b6, b7, b8, i0, m0, i1, m1, i2, m2, i3, m3, i4, m4, i5, m5, mS, mT, hnt, hky, hwf⟩
    obtain ⟨an, ax, Kf, hA1, hA2, an1, an2, ax1, ax2, hK0, hst⟩ := hA
    obtain ⟨v, rfl⟩ : ∃ n : Nat, w = n := ⟨w.toNat, by omega⟩
    have hne : ((s b).ti : Int) ≠ v := hq.2.2
    have kt := hO.2.1
    have xS := fun d => e_slot (d := d) (I := I) (J := J) (b := (b : Int)) (k := 1) hx (by omega) (by omega) (by omega) (by omega)
    rw [Int.toNat_natCast, show (1 : Int).toNat = 1 from rfl, hb1.2.1] at xS
    rw [sg_X11_tune_0]
    simp (disch := first | assumption | omega) only [rX hx, ly_csx, ly_cax, ly_cf, ly_kd, ly_ln, ↓Bool.cond_decide, cond_true, cond_false, ↓bI_p, ↓bV_p, ↓bL_p, bIJ_s, bVJ_s, bLJ_s, ↓am_let_s, Nat.blt, Nat.ble, Bool.and_true, Bool.true_and, Bool.and_self, Int.cast_ofNat_Int, am_i_add, am_i_sub, am_i_mul, am_ok_i, am_i_cl, n_lt, n_le, n_eq, n_lt0, n_le0, n_0lt, n_0le, n_eq0, ne_eq, ↓reduceIte, not_true_eq_false, not_false_eq_true, and_true, true_and, and_false, false_and, eq_T, eq_F, lt_T, lt_F, le_T, le_F, qn_T, qn_F, and_F, b01_T, b01_F, e_isIn, Int32.toInt_toInt64, am_i_toInt, am_l_toInt, Int.toNat_natCast, Int.reduceToNat, Int.reduceAdd, Int.reduceSub, Int.reduceMul, Int.reduceNeg, Nat.reduceAdd, Nat.reduceMul, Nat.add_zero, Nat.mul_zero, Nat.zero_add, am_zb0, am_zb1, h4, rC hx hc, xB, xM, b01_t hq.1, b01_t hq.2.1, xS]
    refine Wp_V (x_keep (n := an) (x := ax) hx hA1 hA2 ax1 an1) ?_
    rintro _ _ ⟨I1, rfl, rfl, k1, k2, k3, k4, k5⟩
    refine ⟨rfl, ?_⟩
    have eS := fun d => e_set (d := d) (I := I1) (J := J) (b := (b : Int)) (k := 1) (v := am_i v) hx (by omega) (by omega) (by omega) (by omega)
    rw [Int.toNat_natCast, show (1 : Int).toNat = 1 from rfl] at eS
    simp (disch := first | assumption | omega) only [am_i_add, am_i_sub, am_i_mul, am_ok_i, am_i_cl, n_lt, n_le, n_eq, n_lt0, n_le0, n_0lt, n_0le, n_eq0, ne_eq, ↓reduceIte, not_true_eq_false, not_false_eq_true, and_true, true_and, and_false, false_and, eq_T, eq_F, lt_T, lt_F, le_T, le_F, qn_T, qn_F, and_F, b01_T, b01_F, e_isIn, Int32.toInt_toInt64, am_i_toInt, am_l_toInt, Int.toNat_natCast, Int.reduceToNat, Int.reduceAdd, Int.reduceSub, Int.reduceMul, Int.reduceNeg, Nat.reduceAdd, Nat.reduceMul, Nat.add_zero, Nat.mul_zero, Nat.zero_add, am_zb0, am_zb1, ↓Bool.cond_decide, cond_true, cond_false, ↓am_let_s, ↓bI_p, bIJ_s, ↓bV_p, bVJ_s, ↓bL_p, bLJ_s, ly_cf, Bool.and_self, Bool.and_true, eS]
    have g : ∀ q k, q ≠ 34 → q ≠ 33 → q ≠ 31 → am_up I1 31 (11 * b + 1) (am_i v) q k = I q k := fun q k e1 e2 e3 => by rw [am_up_o (by omega), k5 q k e1 e2]
    refine Wp_r ⟨_, J, R, rfl, rfl, funext (fun k => g 1 k (by omega) (by omega) (by omega)), rfl, ?_⟩
    have mB := fun d => e_misBoat d (am_i b) nb (am_up I1 31 (11 * b + 1) (am_i v)) J R hm b3 (by rw [g _ _ (by omega) (by omega) (by omega)]; exact m1)
    have tO := fun d => e_tightOf (d := d) (I := am_up I1 31 (11 * b + 1) (am_i v)) (J := J) (b := (b : Int)) hm (by omega) (by omega)
    rw [Int.toNat_natCast, g _ _ (by omega) (by omega) (by omega), (bX_i.mp hb2).2.1] at tO
    rw [sg_X12_tune_0]
    simp (disch := first | assumption | omega) only [rM hm, ly_csm, ly_cam, ly_cf, ly_kd, ly_ln, ↓Bool.cond_decide, cond_true, cond_false, ↓bI_p, ↓bV_p, ↓bL_p, bIJ_s, bVJ_s, bLJ_s, ↓am_let_s, Nat.blt, Nat.ble, Bool.and_true, Bool.true_and, Bool.and_self, Int.cast_ofNat_Int, am_i_add, am_i_sub, am_i_mul, am_ok_i, am_i_cl, n_lt, n_le, n_eq, n_lt0, n_le0, n_0lt, n_0le, n_eq0, ne_eq, ↓reduceIte, not_true_eq_false, not_false_eq_true, and_true, true_and, and_false, false_and, eq_T, eq_F, lt_T, lt_F, le_T, le_F, qn_T, qn_F, and_F, b01_T, b01_F, e_isIn, Int32.toInt_toInt64, am_i_toInt, am_l_toInt, Int.toNat_natCast, Int.reduceToNat, Int.reduceAdd, Int.reduceSub, Int.reduceMul, Int.reduceNeg, Nat.reduceAdd, Nat.reduceMul, Nat.add_zero, Nat.mul_zero, Nat.zero_add, am_zb0, am_zb1, mB, b01_t hq.1, tO]
    refine Wp_V (m_keeps (n := an) (x := ax) hm hA1 hA2 (by rw [g _ _ (by omega) (by omega) (by omega)]; exact ax2) (by rw [g _ _ (by omega) (by omega) (by omega)]; exact an2)) ?_
    rintro _ _ ⟨I2, rfl, rfl, c1, c2, c3, c4, c5⟩
    refine ⟨rfl, ?_⟩
    have n2 : ((2 : Int) + 11 * (b : Int)).toNat = 1 + 11 * b + 1 := by omega
    simp (disch := first | assumption | omega) only [rM hm, ly_csm, ly_cam, ly_cf, ly_kd, ly_ln, ↓Bool.cond_decide, cond_true, cond_false, ↓bI_p, ↓bV_p, ↓bL_p, bIJ_s, bVJ_s, bLJ_s, ↓am_let_s, Nat.blt, Nat.ble, Bool.and_true, Bool.true_and, Bool.and_self, Int.cast_ofNat_Int, am_i_add, am_i_sub, am_i_mul, am_ok_i, am_i_cl, n_lt, n_le, n_eq, n_lt0, n_le0, n_0lt, n_0le, n_eq0, ne_eq, ↓reduceIte, not_true_eq_false, not_false_eq_true, and_true, true_and, and_false, false_and, eq_T, eq_F, lt_T, lt_F, le_T, le_F, qn_T, qn_F, and_F, b01_T, b01_F, e_isIn, Int32.toInt_toInt64, am_i_toInt, am_l_toInt, Int.toNat_natCast, Int.reduceToNat, Int.reduceAdd, Int.reduceSub, Int.reduceMul, Int.reduceNeg, Nat.reduceAdd, Nat.reduceMul, Nat.add_zero, Nat.mul_zero, Nat.zero_add, am_zb0, am_zb1, n2]
    refine Wp_r ⟨_, J, R, rfl, rfl, act_1 (j := 1) (v := v) (x' := tiS (s b) v) hV0 h4 hc hBB hN hF hX b3 hnt6 hb (by omega) (tiS_ok hO (by omega)) (fun f f' o hbx e => ?_) ⟨hh, e66, g0, hbt⟩ ⟨ek, gk, hkp⟩ hKh hA1 hA2 hK0 hst k1 k2 k3 k4 k5 c1 c2 c3 c4 c5⟩
    obtain ⟨x0, x1, x2, x3, x4, x5⟩ := hbx
    exact ⟨by rw [e _ (by omega) (by omega), if_neg (by omega)]; exact x0, by rw [e _ (by omega) (by omega), if_pos rfl]; rfl, by rw [e _ (by omega) (by omega), if_neg (by omega)]; exact x2, by rw [e _ (by omega) (by omega), if_neg (by omega)]; exact x3, by rw [e _ (by omega) (by omega), if_neg (by omega)]; exact x4, fun k hk => by rw [e _ (by omega) (by omega), if_neg (by omega)]; exact x5 k hk⟩
  · refine ⟨am_i 0, ?_⟩
    have xF : ∀ d, am_E (d + 1) 155 0 [(0, .ref 3), (1, .int (am_i 2))] [] (I, J, R, 138) = some (some (.int (am_i 0)), (am_up I 63 2 (I 63 2 + am_i 1), J, R, 138)) := fun d => e_refuse d 2 (by decide) I J R hx
    have g : ∀ q k, q ≠ 63 → am_up I 63 2 (I 63 2 + am_i 1) q k = I q k := fun q k e => am_up_o (by omega)
    have mF : ∀ d, am_E (d + 1) 250 0 [(0, .ref 64)] [] (am_up I 63 2 (I 63 2 + am_i 1), J, R, 138) = some (some (.int (am_i 0)), (am_up (am_up I 63 2 (I 63 2 + am_i 1)) 66 2 (I 66 2 + am_i 1), J, R, 138)) := fun d => by
      rw [sg_X12_isRefused_0]
      simp (disch := first | assumption | omega) only [rM hm, ly_csm, ly_cam, ly_cf, ly_kd, ly_ln, ↓Bool.cond_decide, cond_true, cond_false, ↓bI_p, ↓bV_p, ↓bL_p, bIJ_s, bVJ_s, bLJ_s, ↓am_let_s, Nat.blt, Nat.ble, Bool.and_true, Bool.true_and, Bool.and_self, Int.cast_ofNat_Int, am_i_add, am_i_sub, am_i_mul, am_ok_i, am_i_cl, n_lt, n_le, n_eq, n_lt0, n_le0, n_0lt, n_0le, n_eq0, ne_eq, ↓reduceIte, not_true_eq_false, not_false_eq_true, and_true, true_and, and_false, false_and, eq_T, eq_F, lt_T, lt_F, le_T, le_F, qn_T, qn_F, and_F, b01_T, b01_F, e_isIn, Int32.toInt_toInt64, am_i_toInt, am_l_toInt, Int.toNat_natCast, Int.reduceToNat, Int.reduceAdd, Int.reduceSub, Int.reduceMul, Int.reduceNeg, Nat.reduceAdd, Nat.reduceMul, Nat.add_zero, Nat.mul_zero, Nat.zero_add, am_zb0, am_zb1, am_up_o]
    have mF' : ∀ d, am_E (d + 1) 240 0 [(0, .ref 64), (1, .int (am_i 2))] [] (am_up I 63 2 (I 63 2 + am_i 1), J, R, 138) = some (some (.int (am_i (-1))), (am_up (am_up I 63 2 (I 63 2 + am_i 1)) 66 2 (I 66 2 + am_i 1), J, R, 138)) := fun d => by
      rw [sg_X12_refuses_0]
      simp (disch := first | assumption | omega) only [rM hm, ly_csm, ly_cam, ly_cf, ly_kd, ly_ln, ↓Bool.cond_decide, cond_true, cond_false, ↓bI_p, ↓bV_p, ↓bL_p, bIJ_s, bVJ_s, bLJ_s, ↓am_let_s, Nat.blt, Nat.ble, Bool.and_true, Bool.true_and, Bool.and_self, Int.cast_ofNat_Int, am_i_add, am_i_sub, am_i_mul, am_ok_i, am_i_cl, n_lt, n_le, n_eq, n_lt0, n_le0, n_0lt, n_0le, n_eq0, ne_eq, ↓reduceIte, not_true_eq_false, not_false_eq_true, and_true, true_and, and_false, false_and, eq_T, eq_F, lt_T, lt_F, le_T, le_F, qn_T, qn_F, and_F, b01_T, b01_F, e_isIn, Int32.toInt_toInt64, am_i_toInt, am_l_toInt, Int.toNat_natCast, Int.reduceToNat, Int.reduceAdd, Int.reduceSub, Int.reduceMul, Int.reduceNeg, Nat.reduceAdd, Nat.reduceMul, Nat.add_zero, Nat.mul_zero, Nat.zero_add, am_zb0, am_zb1, am_up_o]
    have mB := fun d => e_misBoat d (am_i z) nb (am_up I 63 2 (I 63 2 + am_i 1)) J R hm b3 (by rw [g _ _ (by omega)]; exact m1)
    have cl : am_E (d + 3) 123 0 [(0, .ref 3), (1, .int (am_i z)), (2, .int (am_i w))] [] (I, J, R, 138) = some (some (.int (am_i 0)), (am_up I 63 2 (I 63 2 + am_i 1), J, R, 138)) := by
      rw [sg_X11_tune_0]
      by_cases h1 : 0 ≤ z ∧ z < nb
      · by_cases h2 : 0 ≤ w ∧ w ≤ 99
        · have h3 : ((s z.toNat).ti : Int) = w := by
            apply Classical.byContradiction
            exact fun e => hq ⟨h1, h2, e⟩
          obtain ⟨hO, hb1, hb2⟩ := hbt z.toNat (by omega)
          have xS := fun d => e_slot (d := d) (I := I) (J := J) (b := z) (k := 1) hx (by omega) (by omega) (by omega) (by omega)
          rw [show (1 : Int).toNat = 1 from rfl, hb1.2.1, h3] at xS
          simp (disch := first | assumption | omega) only [rX hx, ly_csx, ly_cax, ly_cf, ly_kd, ly_ln, ↓Bool.cond_decide, cond_true, cond_false, ↓bI_p, ↓bV_p, ↓bL_p, bIJ_s, bVJ_s, bLJ_s, ↓am_let_s, Nat.blt, Nat.ble, Bool.and_true, Bool.true_and, Bool.and_self, Int.cast_ofNat_Int, am_i_add, am_i_sub, am_i_mul, am_ok_i, am_i_cl, n_lt, n_le, n_eq, n_lt0, n_le0, n_0lt, n_0le, n_eq0, ne_eq, ↓reduceIte, not_true_eq_false, not_false_eq_true, and_true, true_and, and_false, false_and, eq_T, eq_F, lt_T, lt_F, le_T, le_F, qn_T, qn_F, and_F, b01_T, b01_F, e_isIn, Int32.toInt_toInt64, am_i_toInt, am_l_toInt, Int.toNat_natCast, Int.reduceToNat, Int.reduceAdd, Int.reduceSub, Int.reduceMul, Int.reduceNeg, Nat.reduceAdd, Nat.reduceMul, Nat.add_zero, Nat.mul_zero, Nat.zero_add, am_zb0, am_zb1, h4, rC hx hc, xB, xM, b01_t h1, b01_t h2, xS, sg_X11_tune_25, xF]
        · simp (disch := first | assumption | omega) only [rX hx, ly_csx, ly_cax, ly_cf, ly_kd, ly_ln, ↓Bool.cond_decide, cond_true, cond_false, ↓bI_p, ↓bV_p, ↓bL_p, bIJ_s, bVJ_s, bLJ_s, ↓am_let_s, Nat.blt, Nat.ble, Bool.and_true, Bool.true_and, Bool.and_self, Int.cast_ofNat_Int, am_i_add, am_i_sub, am_i_mul, am_ok_i, am_i_cl, n_lt, n_le, n_eq, n_lt0, n_le0, n_0lt, n_0le, n_eq0, ne_eq, ↓reduceIte, not_true_eq_false, not_false_eq_true, and_true, true_and, and_false, false_and, eq_T, eq_F, lt_T, lt_F, le_T, le_F, qn_T, qn_F, and_F, b01_T, b01_F, e_isIn, Int32.toInt_toInt64, am_i_toInt, am_l_toInt, Int.toNat_natCast, Int.reduceToNat, Int.reduceAdd, Int.reduceSub, Int.reduceMul, Int.reduceNeg, Nat.reduceAdd, Nat.reduceMul, Nat.add_zero, Nat.mul_zero, Nat.zero_add, am_zb0, am_zb1, h4, rC hx hc, xB, xM, b01_t h1, b01_f h2, sg_X11_tune_25, xF]
      · simp (disch := first | assumption | omega) only [rX hx, ly_csx, ly_cax, ly_cf, ly_kd, ly_ln, ↓Bool.cond_decide, cond_true, cond_false, ↓bI_p, ↓bV_p, ↓bL_p, bIJ_s, bVJ_s, bLJ_s, ↓am_let_s, Nat.blt, Nat.ble, Bool.and_true, Bool.true_and, Bool.and_self, Int.cast_ofNat_Int, am_i_add, am_i_sub, am_i_mul, am_ok_i, am_i_cl, n_lt, n_le, n_eq, n_lt0, n_le0, n_0lt, n_0le, n_eq0, ne_eq, ↓reduceIte, not_true_eq_false, not_false_eq_true, and_true, true_and, and_false, false_and, eq_T, eq_F, lt_T, lt_F, le_T, le_F, qn_T, qn_F, and_F, b01_T, b01_F, e_isIn, Int32.toInt_toInt64, am_i_toInt, am_l_toInt, Int.toNat_natCast, Int.reduceToNat, Int.reduceAdd, Int.reduceSub, Int.reduceMul, Int.reduceNeg, Nat.reduceAdd, Nat.reduceMul, Nat.add_zero, Nat.mul_zero, Nat.zero_add, am_zb0, am_zb1, h4, rC hx hc, xB, b01_f h1, sg_X11_tune_25, xF]
    refine Wp_e cl (Wp_r ⟨_, J, R, rfl, rfl, funext (fun k => g 1 k (by omega)), rfl, ?_⟩)
    have cm : am_E (d + 3) 251 0 [(0, .ref 64), (1, .int (am_i z)), (2, .int (am_i w))] [] (am_up I 63 2 (I 63 2 + am_i 1), J, R, 138) = some (some (.int (am_i 0)), (am_up (am_up I 63 2 (I 63 2 + am_i 1)) 66 2 (I 66 2 + am_i 1), J, R, 138)) := by
      rw [sg_X12_tune_0]
      by_cases h1 : 0 ≤ z ∧ z < nb
      · by_cases h2 : 0 ≤ w ∧ w ≤ 99
        · have h3 : ((s z.toNat).ti : Int) = w := by
            apply Classical.byContradiction
            exact fun e => hq ⟨h1, h2, e⟩
          obtain ⟨hO, hb1, hb2⟩ := hbt z.toNat (by omega)
          have tO := fun d => e_tightOf (d := d) (I := am_up I 63 2 (I 63 2 + am_i 1)) (J := J) (b := z) hm (by omega) (by omega)
          rw [g _ _ (by omega), (bX_i.mp hb2).2.1, h3] at tO
          simp (disch := first | assumption | omega) only [rM hm, ly_csm, ly_cam, ly_cf, ly_kd, ly_ln, ↓Bool.cond_decide, cond_true, cond_false, ↓bI_p, ↓bV_p, ↓bL_p, bIJ_s, bVJ_s, bLJ_s, ↓am_let_s, Nat.blt, Nat.ble, Bool.and_true, Bool.true_and, Bool.and_self, Int.cast_ofNat_Int, am_i_add, am_i_sub, am_i_mul, am_ok_i, am_i_cl, n_lt, n_le, n_eq, n_lt0, n_le0, n_0lt, n_0le, n_eq0, ne_eq, ↓reduceIte, not_true_eq_false, not_false_eq_true, and_true, true_and, and_false, false_and, eq_T, eq_F, lt_T, lt_F, le_T, le_F, qn_T, qn_F, and_F, b01_T, b01_F, e_isIn, Int32.toInt_toInt64, am_i_toInt, am_l_toInt, Int.toNat_natCast, Int.reduceToNat, Int.reduceAdd, Int.reduceSub, Int.reduceMul, Int.reduceNeg, Nat.reduceAdd, Nat.reduceMul, Nat.add_zero, Nat.mul_zero, Nat.zero_add, am_zb0, am_zb1, mB, b01_t h1, tO, sg_X12_tune_29, mF]
        · simp (disch := first | assumption | omega) only [rM hm, ly_csm, ly_cam, ly_cf, ly_kd, ly_ln, ↓Bool.cond_decide, cond_true, cond_false, ↓bI_p, ↓bV_p, ↓bL_p, bIJ_s, bVJ_s, bLJ_s, ↓am_let_s, Nat.blt, Nat.ble, Bool.and_true, Bool.true_and, Bool.and_self, Int.cast_ofNat_Int, am_i_add, am_i_sub, am_i_mul, am_ok_i, am_i_cl, n_lt, n_le, n_eq, n_lt0, n_le0, n_0lt, n_0le, n_eq0, ne_eq, ↓reduceIte, not_true_eq_false, not_false_eq_true, and_true, true_and, and_false, false_and, eq_T, eq_F, lt_T, lt_F, le_T, le_F, qn_T, qn_F, and_F, b01_T, b01_F, e_isIn, Int32.toInt_toInt64, am_i_toInt, am_l_toInt, Int.toNat_natCast, Int.reduceToNat, Int.reduceAdd, Int.reduceSub, Int.reduceMul, Int.reduceNeg, Nat.reduceAdd, Nat.reduceMul, Nat.add_zero, Nat.mul_zero, Nat.zero_add, am_zb0, am_zb1, mB, b01_t h1, sg_X12_tune_29, mF]
      · simp (disch := first | assumption | omega) only [rM hm, ly_csm, ly_cam, ly_cf, ly_kd, ly_ln, ↓Bool.cond_decide, cond_true, cond_false, ↓bI_p, ↓bV_p, ↓bL_p, bIJ_s, bVJ_s, bLJ_s, ↓am_let_s, Nat.blt, Nat.ble, Bool.and_true, Bool.true_and, Bool.and_self, Int.cast_ofNat_Int, am_i_add, am_i_sub, am_i_mul, am_ok_i, am_i_cl, n_lt, n_le, n_eq, n_lt0, n_le0, n_0lt, n_0le, n_eq0, ne_eq, ↓reduceIte, not_true_eq_false, not_false_eq_true, and_true, true_and, and_false, false_and, eq_T, eq_F, lt_T, lt_F, le_T, le_F, qn_T, qn_F, and_F, b01_T, b01_F, e_isIn, Int32.toInt_toInt64, am_i_toInt, am_l_toInt, Int.toNat_natCast, Int.reduceToNat, Int.reduceAdd, Int.reduceSub, Int.reduceMul, Int.reduceNeg, Nat.reduceAdd, Nat.reduceMul, Nat.add_zero, Nat.mul_zero, Nat.zero_add, am_zb0, am_zb1, mB, b01_f h1, sg_X12_tune_29, mF]
    exact Wp_e cm (Wp_r ⟨_, J, R, rfl, rfl, vV_ref hV0 2⟩)
theorem p_raise (d : Nat) (a1 : Int32) : pr_I (vV restW L xs) (d + 3) 125 253 [(1, .int a1)] := by
  refine pW_I ?_
  intro I J R hV
  have hV0 := hV
  obtain ⟨⟨h1, h2, hx, hm, hmu⟩, ht, hr, hf, hp, hs, hd, hw⟩ := hV
  obtain ⟨c, last, nb, nr, nw, wd, sq, K, nt, wf, fm, h4, hc, hB, hN, hF, ⟨h, s, ⟨hh, e66, g0, hbt⟩, ⟨ek, gk, hkp⟩, hKh⟩, hA, hX⟩ := hw
  obtain ⟨b1, b2, b3, b4, b5, b6, b7, b8, i0, m0, i1, m1, i2, m2, i3, m3, i4, m4, i5, m5, mS, mT, hnt, hky, hwf⟩ := hB
  obtain ⟨z, z1, z2, rfl⟩ := i32_z a1
  have xB := fun d => e_xisBoat d (am_i z) nb c I J R hx h4 hc b3 i1
  by_cases hq : (0 ≤ z ∧ z < nb) ∧ (s z.toNat).su = 1
  · refine ⟨am_i 1, ?_⟩
    obtain ⟨b, rfl⟩ : ∃ n : Nat, z = n := ⟨z.toNat, by omega⟩
    have hb : b < nb := by omega
    have hnt6 : ∀ b, b < nb → nt b ≤ 6 := fun b hb => (hnt b hb).1
    obtain ⟨n6, n1, n2⟩ := hnt b hb
    obtain ⟨hO, hb1, hb2⟩ := hbt b hb
    have hBB : restB I c last nb nr nw wd sq nt wf := ⟨b1, b2, b3, b4, b5, b6, b7, b8, i0, m0, i1, m1, i2, m2, i3, m3, i4, m4, i5, m5, mS, mT, hnt, hky, hwf⟩
    obtain ⟨an, ax, Kf, hA1, hA2, an1, an2, ax1, ax2, hK0, hst⟩ := hA
    have hne : (s b).su = 1 := hq.2
    have xS := fun d => e_slot (d := d) (I := I) (J := J) (b := (b : Int)) (k := 3) hx (by omega) (by omega) (by omega) (by omega)
    rw [Int.toNat_natCast, show (3 : Int).toNat = 3 from rfl, hb1.2.2.2.1, hne] at xS
    rw [sg_X11_raise_0]
    simp (disch := first | assumption | omega) only [rX hx, ly_csx, ly_cax, ly_cf, ly_kd, ly_ln, ↓Bool.cond_decide, cond_true, cond_false, ↓bI_p, ↓bV_p, ↓bL_p, bIJ_s, bVJ_s, bLJ_s, ↓am_let_s, Nat.blt, Nat.ble, Bool.and_true, Bool.true_and, Bool.and_self, Int.cast_ofNat_Int, am_i_add, am_i_sub, am_i_mul, am_ok_i, am_i_cl, n_lt, n_le, n_eq, n_lt0, n_le0, n_0lt, n_0le, n_eq0, ne_eq, ↓reduceIte, not_true_eq_false, not_false_eq_true, and_true, true_and, and_false, false_and, eq_T, eq_F, lt_T, lt_F, le_T, le_F, qn_T, qn_F, and_F, b01_T, b01_F, e_isIn, Int32.toInt_toInt64, am_i_toInt, am_l_toInt, Int.toNat_natCast, Int.reduceToNat, Int.reduceAdd, Int.reduceSub, Int.reduceMul, Int.reduceNeg, Nat.reduceAdd, Nat.reduceMul, Nat.add_zero, Nat.mul_zero, Nat.zero_add, am_zb0, am_zb1, h4, rC hx hc, xB, b01_t hq.1, xS]
    refine Wp_V (x_keep (n := an) (x := ax) hx hA1 hA2 ax1 an1) ?_
    rintro _ _ ⟨I1, rfl, rfl, k1, k2, k3, k4, k5⟩
    refine ⟨rfl, ?_⟩
    have eS := fun d => e_set (d := d) (I := I1) (J := J) (b := (b : Int)) (k := 3) (v := am_i 0) hx (by omega) (by omega) (by omega) (by omega)
    rw [Int.toNat_natCast, show (3 : Int).toNat = 3 from rfl] at eS
    simp (disch := first | assumption | omega) only [am_i_add, am_i_sub, am_i_mul, am_ok_i, am_i_cl, n_lt, n_le, n_eq, n_lt0, n_le0, n_0lt, n_0le, n_eq0, ne_eq, ↓reduceIte, not_true_eq_false, not_false_eq_true, and_true, true_and, and_false, false_and, eq_T, eq_F, lt_T, lt_F, le_T, le_F, qn_T, qn_F, and_F, b01_T, b01_F, e_isIn, Int32.toInt_toInt64, am_i_toInt, am_l_toInt, Int.toNat_natCast, Int.reduceToNat, Int.reduceAdd, Int.reduceSub, Int.reduceMul, Int.reduceNeg, Nat.reduceAdd, Nat.reduceMul, Nat.add_zero, Nat.mul_zero, Nat.zero_add, am_zb0, am_zb1, ↓Bool.cond_decide, cond_true, cond_false, ↓am_let_s, ↓bI_p, bIJ_s, ↓bV_p, bVJ_s, ↓bL_p, bLJ_s, ly_cf, Bool.and_self, Bool.and_true, eS]
    have g : ∀ q k, q ≠ 34 → q ≠ 33 → q ≠ 31 → am_up I1 31 (11 * b + 3) (am_i 0) q k = I q k := fun q k e1 e2 e3 => by rw [am_up_o (by omega), k5 q k e1 e2]
    refine Wp_r ⟨_, J, R, rfl, rfl, funext (fun k => g 1 k (by omega) (by omega) (by omega)), rfl, ?_⟩
    have mB := fun d => e_misBoat d (am_i b) nb (am_up I1 31 (11 * b + 3) (am_i 0)) J R hm b3 (by rw [g _ _ (by omega) (by omega) (by omega)]; exact m1)
    have tO := fun d => e_isSunk (d := d) (I := am_up I1 31 (11 * b + 3) (am_i 0)) (J := J) (b := (b : Int)) (v := 1) hm (by omega) (by omega) (by rw [Int.toNat_natCast, g _ _ (by omega) (by omega) (by omega), (bX_i.mp hb2).2.2.2.1, hne]) (by omega)
    rw [sg_X12_raise_0]
    simp (disch := first | assumption | omega) only [rM hm, ly_csm, ly_cam, ly_cf, ly_kd, ly_ln, ↓Bool.cond_decide, cond_true, cond_false, ↓bI_p, ↓bV_p, ↓bL_p, bIJ_s, bVJ_s, bLJ_s, ↓am_let_s, Nat.blt, Nat.ble, Bool.and_true, Bool.true_and, Bool.and_self, Int.cast_ofNat_Int, am_i_add, am_i_sub, am_i_mul, am_ok_i, am_i_cl, n_lt, n_le, n_eq, n_lt0, n_le0, n_0lt, n_0le, n_eq0, ne_eq, ↓reduceIte, not_true_eq_false, not_false_eq_true, and_true, true_and, and_false, false_and, eq_T, eq_F, lt_T, lt_F, le_T, le_F, qn_T, qn_F, and_F, b01_T, b01_F, e_isIn, Int32.toInt_toInt64, am_i_toInt, am_l_toInt, Int.toNat_natCast, Int.reduceToNat, Int.reduceAdd, Int.reduceSub, Int.reduceMul, Int.reduceNeg, Nat.reduceAdd, Nat.reduceMul, Nat.add_zero, Nat.mul_zero, Nat.zero_add, am_zb0, am_zb1, mB, b01_t hq.1, tO]
    refine Wp_V (m_keeps (n := an) (x := ax) hm hA1 hA2 (by rw [g _ _ (by omega) (by omega) (by omega)]; exact ax2) (by rw [g _ _ (by omega) (by omega) (by omega)]; exact an2)) ?_
    rintro _ _ ⟨I2, rfl, rfl, c1, c2, c3, c4, c5⟩
    refine ⟨rfl, ?_⟩
    have n2 : ((4 : Int) + 11 * (b : Int)).toNat = 1 + 11 * b + 3 := by omega
    simp (disch := first | assumption | omega) only [rM hm, ly_csm, ly_cam, ly_cf, ly_kd, ly_ln, ↓Bool.cond_decide, cond_true, cond_false, ↓bI_p, ↓bV_p, ↓bL_p, bIJ_s, bVJ_s, bLJ_s, ↓am_let_s, Nat.blt, Nat.ble, Bool.and_true, Bool.true_and, Bool.and_self, Int.cast_ofNat_Int, am_i_add, am_i_sub, am_i_mul, am_ok_i, am_i_cl, n_lt, n_le, n_eq, n_lt0, n_le0, n_0lt, n_0le, n_eq0, ne_eq, ↓reduceIte, not_true_eq_false, not_false_eq_true, and_true, true_and, and_false, false_and, eq_T, eq_F, lt_T, lt_F, le_T, le_F, qn_T, qn_F, and_F, b01_T, b01_F, e_isIn, Int32.toInt_toInt64, am_i_toInt, am_l_toInt, Int.toNat_natCast, Int.reduceToNat, Int.reduceAdd, Int.reduceSub, Int.reduceMul, Int.reduceNeg, Nat.reduceAdd, Nat.reduceMul, Nat.add_zero, Nat.mul_zero, Nat.zero_add, am_zb0, am_zb1, n2]
    refine Wp_r ⟨_, J, R, rfl, rfl, act_1 (j := 3) (v := 0) (x' := ((s b).mi, (s b).ti, (s b).ro, 0, (s b).pl, (s b).sc)) hV0 h4 hc hBB hN hF hX b3 hnt6 hb (by omega) ⟨hO.1, hO.2.1, hO.2.2.1, Nat.zero_le _, hO.2.2.2.2.1, (fun e => by cases e), hO.2.2.2.2.2.2⟩ (fun f f' o hbx e => ?_) ⟨hh, e66, g0, hbt⟩ ⟨ek, gk, hkp⟩ hKh hA1 hA2 hK0 hst k1 k2 k3 k4 k5 c1 c2 c3 c4 c5⟩
    obtain ⟨x0, x1, x2, x3, x4, x5⟩ := hbx
    exact ⟨by rw [e _ (by omega) (by omega), if_neg (by omega)]; exact x0, by rw [e _ (by omega) (by omega), if_neg (by omega)]; exact x1, by rw [e _ (by omega) (by omega), if_neg (by omega)]; exact x2, by rw [e _ (by omega) (by omega), if_pos rfl]; rfl, by rw [e _ (by omega) (by omega), if_neg (by omega)]; exact x4, fun k hk => by rw [e _ (by omega) (by omega), if_neg (by omega)]; exact x5 k hk⟩
  · refine ⟨am_i 0, ?_⟩
    have xF : ∀ d, am_E (d + 1) 155 0 [(0, .ref 3), (1, .int (am_i 2))] [] (I, J, R, 138) = some (some (.int (am_i 0)), (am_up I 63 2 (I 63 2 + am_i 1), J, R, 138)) := fun d => e_refuse d 2 (by decide) I J R hx
    have g : ∀ q k, q ≠ 63 → am_up I 63 2 (I 63 2 + am_i 1) q k = I q k := fun q k e => am_up_o (by omega)
    have mF : ∀ d, am_E (d + 1) 250 0 [(0, .ref 64)] [] (am_up I 63 2 (I 63 2 + am_i 1), J, R, 138) = some (some (.int (am_i 0)), (am_up (am_up I 63 2 (I 63 2 + am_i 1)) 66 2 (I 66 2 + am_i 1), J, R, 138)) := fun d => by
      rw [sg_X12_isRefused_0]
      simp (disch := first | assumption | omega) only [rM hm, ly_csm, ly_cam, ly_cf, ly_kd, ly_ln, ↓Bool.cond_decide, cond_true, cond_false, ↓bI_p, ↓bV_p, ↓bL_p, bIJ_s, bVJ_s, bLJ_s, ↓am_let_s, Nat.blt, Nat.ble, Bool.and_true, Bool.true_and, Bool.and_self, Int.cast_ofNat_Int, am_i_add, am_i_sub, am_i_mul, am_ok_i, am_i_cl, n_lt, n_le, n_eq, n_lt0, n_le0, n_0lt, n_0le, n_eq0, ne_eq, ↓reduceIte, not_true_eq_false, not_false_eq_true, and_true, true_and, and_false, false_and, eq_T, eq_F, lt_T, lt_F, le_T, le_F, qn_T, qn_F, and_F, b01_T, b01_F, e_isIn, Int32.toInt_toInt64, am_i_toInt, am_l_toInt, Int.toNat_natCast, Int.reduceToNat, Int.reduceAdd, Int.reduceSub, Int.reduceMul, Int.reduceNeg, Nat.reduceAdd, Nat.reduceMul, Nat.add_zero, Nat.mul_zero, Nat.zero_add, am_zb0, am_zb1, am_up_o]
    have mF' : ∀ d, am_E (d + 1) 240 0 [(0, .ref 64), (1, .int (am_i 2))] [] (am_up I 63 2 (I 63 2 + am_i 1), J, R, 138) = some (some (.int (am_i (-1))), (am_up (am_up I 63 2 (I 63 2 + am_i 1)) 66 2 (I 66 2 + am_i 1), J, R, 138)) := fun d => by
      rw [sg_X12_refuses_0]
      simp (disch := first | assumption | omega) only [rM hm, ly_csm, ly_cam, ly_cf, ly_kd, ly_ln, ↓Bool.cond_decide, cond_true, cond_false, ↓bI_p, ↓bV_p, ↓bL_p, bIJ_s, bVJ_s, bLJ_s, ↓am_let_s, Nat.blt, Nat.ble, Bool.and_true, Bool.true_and, Bool.and_self, Int.cast_ofNat_Int, am_i_add, am_i_sub, am_i_mul, am_ok_i, am_i_cl, n_lt, n_le, n_eq, n_lt0, n_le0, n_0lt, n_0le, n_eq0, ne_eq, ↓reduceIte, not_true_eq_false, not_false_eq_true, and_true, true_and, and_false, false_and, eq_T, eq_F, lt_T, lt_F, le_T, le_F, qn_T, qn_F, and_F, b01_T, b01_F, e_isIn, Int32.toInt_toInt64, am_i_toInt, am_l_toInt, Int.toNat_natCast, Int.reduceToNat, Int.reduceAdd, Int.reduceSub, Int.reduceMul, Int.reduceNeg, Nat.reduceAdd, Nat.reduceMul, Nat.add_zero, Nat.mul_zero, Nat.zero_add, am_zb0, am_zb1, am_up_o]
    have mB := fun d => e_misBoat d (am_i z) nb (am_up I 63 2 (I 63 2 + am_i 1)) J R hm b3 (by rw [g _ _ (by omega)]; exact m1)
    have cl : am_E (d + 3) 125 0 [(0, .ref 3), (1, .int (am_i z))] [] (I, J, R, 138) = some (some (.int (am_i 0)), (am_up I 63 2 (I 63 2 + am_i 1), J, R, 138)) := by
      rw [sg_X11_raise_0]
      by_cases h1 : 0 ≤ z ∧ z < nb
      · obtain ⟨hO, hb1, hb2⟩ := hbt z.toNat (by omega)
        have h3 : (s z.toNat).su = 0 := by
          have := hO.2.2.2.1
          have : (s z.toNat).su ≠ 1 := fun e => hq ⟨h1, e⟩
          omega
        have xS := fun d => e_slot (d := d) (I := I) (J := J) (b := z) (k := 3) hx (by omega) (by omega) (by omega) (by omega)
        rw [show (3 : Int).toNat = 3 from rfl, hb1.2.2.2.1, h3] at xS
        simp (disch := first | assumption | omega) only [rX hx, ly_csx, ly_cax, ly_cf, ly_kd, ly_ln, ↓Bool.cond_decide, cond_true, cond_false, ↓bI_p, ↓bV_p, ↓bL_p, bIJ_s, bVJ_s, bLJ_s, ↓am_let_s, Nat.blt, Nat.ble, Bool.and_true, Bool.true_and, Bool.and_self, Int.cast_ofNat_Int, am_i_add, am_i_sub, am_i_mul, am_ok_i, am_i_cl, n_lt, n_le, n_eq, n_lt0, n_le0, n_0lt, n_0le, n_eq0, ne_eq, ↓reduceIte, not_true_eq_false, not_false_eq_true, and_true, true_and, and_false, false_and, eq_T, eq_F, lt_T, lt_F, le_T, le_F, qn_T, qn_F, and_F, b01_T, b01_F, e_isIn, Int32.toInt_toInt64, am_i_toInt, am_l_toInt, Int.toNat_natCast, Int.reduceToNat, Int.reduceAdd, Int.reduceSub, Int.reduceMul, Int.reduceNeg, Nat.reduceAdd, Nat.reduceMul, Nat.add_zero, Nat.mul_zero, Nat.zero_add, am_zb0, am_zb1, h4, rC hx hc, xB, b01_t h1, xS, sg_X11_raise_17, xF]
      · simp (disch := first | assumption | omega) only [rX hx, ly_csx, ly_cax, ly_cf, ly_kd, ly_ln, ↓Bool.cond_decide, cond_true, cond_false, ↓bI_p, ↓bV_p, ↓bL_p, bIJ_s, bVJ_s, bLJ_s, ↓am_let_s, Nat.blt, Nat.ble, Bool.and_true, Bool.true_and, Bool.and_self, Int.cast_ofNat_Int, am_i_add, am_i_sub, am_i_mul, am_ok_i, am_i_cl, n_lt, n_le, n_eq, n_lt0, n_le0, n_0lt, n_0le, n_eq0, ne_eq, ↓reduceIte, not_true_eq_false, not_false_eq_true, and_true, true_and, and_false, false_and, eq_T, eq_F, lt_T, lt_F, le_T, le_F, qn_T, qn_F, and_F, b01_T, b01_F, e_isIn, Int32.toInt_toInt64, am_i_toInt, am_l_toInt, Int.toNat_natCast, Int.reduceToNat, Int.reduceAdd, Int.reduceSub, Int.reduceMul, Int.reduceNeg, Nat.reduceAdd, Nat.reduceMul, Nat.add_zero, Nat.mul_zero, Nat.zero_add, am_zb0, am_zb1, h4, rC hx hc, xB, b01_f h1, sg_X11_raise_17, xF]
    refine Wp_e cl (Wp_r ⟨_, J, R, rfl, rfl, funext (fun k => g 1 k (by omega)), rfl, ?_⟩)
    have cm : am_E (d + 3) 253 0 [(0, .ref 64), (1, .int (am_i z))] [] (am_up I 63 2 (I 63 2 + am_i 1), J, R, 138) = some (some (.int (am_i 0)), (am_up (am_up I 63 2 (I 63 2 + am_i 1)) 66 2 (I 66 2 + am_i 1), J, R, 138)) := by
      rw [sg_X12_raise_0]
      by_cases h1 : 0 ≤ z ∧ z < nb
      · obtain ⟨hO, hb1, hb2⟩ := hbt z.toNat (by omega)
        have h3 : (s z.toNat).su = 0 := by
          have := hO.2.2.2.1
          have : (s z.toNat).su ≠ 1 := fun e => hq ⟨h1, e⟩
          omega
        have tO := fun d => e_isSunk (d := d) (I := am_up I 63 2 (I 63 2 + am_i 1)) (J := J) (b := z) (v := 0) hm (by omega) (by omega) (by rw [g _ _ (by omega), (bX_i.mp hb2).2.2.2.1, h3]) (by omega)
        simp (disch := first | assumption | omega) only [rM hm, ly_csm, ly_cam, ly_cf, ly_kd, ly_ln, ↓Bool.cond_decide, cond_true, cond_false, ↓bI_p, ↓bV_p, ↓bL_p, bIJ_s, bVJ_s, bLJ_s, ↓am_let_s, Nat.blt, Nat.ble, Bool.and_true, Bool.true_and, Bool.and_self, Int.cast_ofNat_Int, am_i_add, am_i_sub, am_i_mul, am_ok_i, am_i_cl, n_lt, n_le, n_eq, n_lt0, n_le0, n_0lt, n_0le, n_eq0, ne_eq, ↓reduceIte, not_true_eq_false, not_false_eq_true, and_true, true_and, and_false, false_and, eq_T, eq_F, lt_T, lt_F, le_T, le_F, qn_T, qn_F, and_F, b01_T, b01_F, e_isIn, Int32.toInt_toInt64, am_i_toInt, am_l_toInt, Int.toNat_natCast, Int.reduceToNat, Int.reduceAdd, Int.reduceSub, Int.reduceMul, Int.reduceNeg, Nat.reduceAdd, Nat.reduceMul, Nat.add_zero, Nat.mul_zero, Nat.zero_add, am_zb0, am_zb1, mB, b01_t h1, tO, sg_X12_raise_16, mF]
      · simp (disch := first | assumption | omega) only [rM hm, ly_csm, ly_cam, ly_cf, ly_kd, ly_ln, ↓Bool.cond_decide, cond_true, cond_false, ↓bI_p, ↓bV_p, ↓bL_p, bIJ_s, bVJ_s, bLJ_s, ↓am_let_s, Nat.blt, Nat.ble, Bool.and_true, Bool.true_and, Bool.and_self, Int.cast_ofNat_Int, am_i_add, am_i_sub, am_i_mul, am_ok_i, am_i_cl, n_lt, n_le, n_eq, n_lt0, n_le0, n_0lt, n_0le, n_eq0, ne_eq, ↓reduceIte, not_true_eq_false, not_false_eq_true, and_true, true_and, and_false, false_and, eq_T, eq_F, lt_T, lt_F, le_T, le_F, qn_T, qn_F, and_F, b01_T, b01_F, e_isIn, Int32.toInt_toInt64, am_i_toInt, am_l_toInt, Int.toNat_natCast, Int.reduceToNat, Int.reduceAdd, Int.reduceSub, Int.reduceMul, Int.reduceNeg, Nat.reduceAdd, Nat.reduceMul, Nat.add_zero, Nat.mul_zero, Nat.zero_add, am_zb0, am_zb1, mB, b01_f h1, sg_X12_raise_16, mF]
    exact Wp_e cm (Wp_r ⟨_, J, R, rfl, rfl, vV_ref hV0 2⟩)
theorem p_rosin (d : Nat) (a1 a2 : Int32) : pr_I (vV restW L xs) (d + 3) 124 252 [(1, .int a1), (2, .int a2)] := by
  refine pW_I ?_
  intro I J R hV
  have hV0 := hV
  obtain ⟨⟨h1, h2, hx, hm, hmu⟩, ht, hr, hf, hp, hs, hd, hw⟩ := hV
  obtain ⟨c, last, nb, nr, nw, wd, sq, K, nt, wf, fm, h4, hc, hB, hN, hF, ⟨h, s, ⟨hh, e66, g0, hbt⟩, ⟨ek, gk, hkp⟩, hKh⟩, hA, hX⟩ := hw
  obtain ⟨b1, b2, b3, b4, b5, b6, b7, b8, i0, m0, i1, m1, i2, m2, i3, m3, i4, m4, i5, m5, mS, mT, hnt, hky, hwf⟩ := hB
  obtain ⟨z, z1, z2, rfl⟩ := i32_z a1
  obtain ⟨w, w1, w2, rfl⟩ := i32_z a2
  have xB := fun d => e_xisBoat d (am_i z) nb c I J R hx h4 hc b3 i1
  have xM := fun d M => e_xAmount (d := d) (M := M) w1 w2
  by_cases hq : (0 ≤ z ∧ z < nb) ∧ (1 ≤ w ∧ w ≤ 99) ∧ (s z.toNat).ro ≠ 99
  · have hw0 : 0 ≤ w ∧ w ≤ 99 := by omega
    obtain ⟨b, rfl⟩ : ∃ n : Nat, z = n := ⟨z.toNat, by omega⟩
    have hb : b < nb := by omega
    have hnt6 : ∀ b, b < nb → nt b ≤ 6 := fun b hb => (hnt b hb).1
    obtain ⟨n6, n1, n2⟩ := hnt b hb
    obtain ⟨hO, hb1, hb2⟩ := hbt b hb
    have hBB : restB I c last nb nr nw wd sq nt wf := ⟨b1, b2, b3, b4, b5, b6, b7, b8, i0, m0, i1, m1, i2, m2, i3, m3, i4, m4, i5, m5, mS, mT, hnt, hky, hwf⟩
    obtain ⟨an, ax, Kf, hA1, hA2, an1, an2, ax1, ax2, hK0, hst⟩ := hA
    obtain ⟨v, rfl⟩ : ∃ n : Nat, w = n := ⟨w.toNat, by omega⟩
    have hne : (s b).ro ≠ 99 := hq.2.2
    have kt := hO.2.2.1
    obtain ⟨r, hr9, hr1, hr2⟩ : ∃ r : Nat, r ≤ 99 ∧ (if am_i (((s b).ro : Int) + v) < am_i 99 then am_i (((s b).ro : Int) + v) else am_i 99) = am_i r ∧ ((((s b).ro : Int) + v ≤ 99 ∧ am_i (((s b).ro : Int) + v) = am_i r) ∨ (¬ ((s b).ro : Int) + v ≤ 99 ∧ am_i 99 = am_i r)) := by
      by_cases q : ((s b).ro : Int) + v < 99
      · exact ⟨(s b).ro + v, by omega, by rw [if_pos ((am_i_lt (by omega) (by omega) (by omega) (by omega)).mpr q)]; rfl, Or.inl ⟨by omega, rfl⟩⟩
      · refine ⟨99, by omega, by rw [if_neg (fun e => q ((am_i_lt (by omega) (by omega) (by omega) (by omega)).mp e))]; rfl, ?_⟩
        by_cases q2 : ((s b).ro : Int) + v = 99
        · exact Or.inl ⟨by omega, by rw [q2]; rfl⟩
        · exact Or.inr ⟨by omega, rfl⟩
    refine ⟨am_i r, ?_⟩
    have xS := fun d (I : tI) (J : tJ) => e_slot (d := d) (I := I) (J := J) (b := (b : Int)) (k := 2) hx (by omega) (by omega) (by omega) (by omega)
    rw [Int.toNat_natCast, show (2 : Int).toNat = 2 from rfl] at xS
    have er := hb1.2.2.1
    rw [sg_X11_rosin_0]
    simp (disch := first | assumption | omega) only [rX hx, ly_csx, ly_cax, ly_cf, ly_kd, ly_ln, ↓Bool.cond_decide, cond_true, cond_false, ↓bI_p, ↓bV_p, ↓bL_p, bIJ_s, bVJ_s, bLJ_s, ↓am_let_s, Nat.blt, Nat.ble, Bool.and_true, Bool.true_and, Bool.and_self, Int.cast_ofNat_Int, am_i_add, am_i_sub, am_i_mul, am_ok_i, am_i_cl, n_lt, n_le, n_eq, n_lt0, n_le0, n_0lt, n_0le, n_eq0, ne_eq, ↓reduceIte, not_true_eq_false, not_false_eq_true, and_true, true_and, and_false, false_and, eq_T, eq_F, lt_T, lt_F, le_T, le_F, qn_T, qn_F, and_F, b01_T, b01_F, e_isIn, Int32.toInt_toInt64, am_i_toInt, am_l_toInt, Int.toNat_natCast, Int.reduceToNat, Int.reduceAdd, Int.reduceSub, Int.reduceMul, Int.reduceNeg, Nat.reduceAdd, Nat.reduceMul, Nat.add_zero, Nat.mul_zero, Nat.zero_add, am_zb0, am_zb1, h4, rC hx hc, xB, xM, b01_t hq.1, b01_t hw0, xS, er]
    refine Wp_V (x_keep (n := an) (x := ax) hx hA1 hA2 ax1 an1) ?_
    rintro _ _ ⟨I1, rfl, rfl, k1, k2, k3, k4, k5⟩
    refine ⟨rfl, ?_⟩
    have eS := fun d v => e_set (d := d) (I := I1) (J := J) (b := (b : Int)) (k := 2) (v := v) hx (by omega) (by omega) (by omega) (by omega)
    rw [Int.toNat_natCast, show (2 : Int).toNat = 2 from rfl] at eS
    have er1 : I1 31 (11 * b + 2) = am_i (s b).ro := by rw [k5 _ _ (by omega) (by omega)]; exact er
    have ea : am_i ((s b).ro : Int) + am_i (v : Int) = am_i (((s b).ro : Int) + v) := am_i_add _ _
    simp (disch := first | assumption | omega) only [↓Bool.cond_decide, cond_true, cond_false, ↓am_let_s, ↓bI_p, bIJ_s, ↓bV_p, bVJ_s, ↓bL_p, bLJ_s, ly_cf, Bool.and_self, Bool.and_true, xS, er1, ea, hr1, eS, am_up_e]
    have g : ∀ q k, q ≠ 34 → q ≠ 33 → q ≠ 31 → am_up I1 31 (11 * b + 2) (am_i r) q k = I q k := fun q k e1 e2 e3 => by rw [am_up_o (by omega), k5 q k e1 e2]
    refine Wp_r ⟨_, J, R, rfl, rfl, funext (fun k => g 1 k (by omega) (by omega) (by omega)), rfl, ?_⟩
    have mB := fun d => e_misBoat d (am_i b) nb (am_up I1 31 (11 * b + 2) (am_i r)) J R hm b3 (by rw [g _ _ (by omega) (by omega) (by omega)]; exact m1)
    have tO := fun d (I : tI) (J : tJ) => e_rosinOf (d := d) (I := I) (J := J) (b := (b : Int)) hm (by omega) (by omega)
    rw [Int.toNat_natCast] at tO
    have e3 : am_up I1 31 (11 * b + 2) (am_i r) 103 (3 + 11 * b) = am_i (s b).ro := by rw [g _ _ (by omega) (by omega) (by omega)]; exact (bX_i.mp hb2).2.2.1
    rw [sg_X12_rosin_0]
    simp (disch := first | assumption | omega) only [rM hm, ly_csm, ly_cam, ly_cf, ly_kd, ly_ln, ↓Bool.cond_decide, cond_true, cond_false, ↓bI_p, ↓bV_p, ↓bL_p, bIJ_s, bVJ_s, bLJ_s, ↓am_let_s, Nat.blt, Nat.ble, Bool.and_true, Bool.true_and, Bool.and_self, Int.cast_ofNat_Int, am_i_add, am_i_sub, am_i_mul, am_ok_i, am_i_cl, n_lt, n_le, n_eq, n_lt0, n_le0, n_0lt, n_0le, n_eq0, ne_eq, ↓reduceIte, not_true_eq_false, not_false_eq_true, and_true, true_and, and_false, false_and, eq_T, eq_F, lt_T, lt_F, le_T, le_F, qn_T, qn_F, and_F, b01_T, b01_F, e_isIn, Int32.toInt_toInt64, am_i_toInt, am_l_toInt, Int.toNat_natCast, Int.reduceToNat, Int.reduceAdd, Int.reduceSub, Int.reduceMul, Int.reduceNeg, Nat.reduceAdd, Nat.reduceMul, Nat.add_zero, Nat.mul_zero, Nat.zero_add, am_zb0, am_zb1, mB, b01_t hq.1, tO, e3]
    refine Wp_V (m_keeps (n := an) (x := ax) hm hA1 hA2 (by rw [g _ _ (by omega) (by omega) (by omega)]; exact ax2) (by rw [g _ _ (by omega) (by omega) (by omega)]; exact an2)) ?_
    rintro _ _ ⟨I2, rfl, rfl, c1, c2, c3, c4, c5⟩
    refine ⟨rfl, ?_⟩
    have n2 : ((3 : Int) + 11 * (b : Int)).toNat = 3 + 11 * b := by omega
    have e3' : I2 103 (3 + 11 * b) = am_i (s b).ro := by rw [c5 _ _ (by omega) (by omega)]; exact e3
    have fin : vV restW L xs (am_up I2 103 (3 + 11 * b) (am_i r)) J R := by
      rw [show 3 + 11 * b = 1 + 11 * b + 2 by omega]
      refine act_1 (j := 2) (v := r) (x' := ((s b).mi, (s b).ti, r, (s b).su, (s b).pl, (s b).sc)) hV0 h4 hc hBB hN hF hX b3 hnt6 hb (by omega) ⟨hO.1, hO.2.1, hr9, hO.2.2.2.1, hO.2.2.2.2.1, hO.2.2.2.2.2.1, hO.2.2.2.2.2.2⟩ (fun f f' o hbx e => ?_) ⟨hh, e66, g0, hbt⟩ ⟨ek, gk, hkp⟩ hKh hA1 hA2 hK0 hst k1 k2 k3 k4 k5 c1 c2 c3 c4 c5
      obtain ⟨x0, x1, x2, x3, x4, x5⟩ := hbx
      exact ⟨by rw [e _ (by omega) (by omega), if_neg (by omega)]; exact x0, by rw [e _ (by omega) (by omega), if_neg (by omega)]; exact x1, by rw [e _ (by omega) (by omega), if_pos rfl]; rfl, by rw [e _ (by omega) (by omega), if_neg (by omega)]; exact x3, by rw [e _ (by omega) (by omega), if_neg (by omega)]; exact x4, fun k hk => by rw [e _ (by omega) (by omega), if_neg (by omega)]; exact x5 k hk⟩
    rcases hr2 with ⟨q1, q2⟩ | ⟨q1, q2⟩
    · simp (disch := first | assumption | omega) only [rM hm, ly_csm, ly_cam, ly_cf, ly_kd, ly_ln, ↓Bool.cond_decide, cond_true, cond_false, ↓bI_p, ↓bV_p, ↓bL_p, bIJ_s, bVJ_s, bLJ_s, ↓am_let_s, Nat.blt, Nat.ble, Bool.and_true, Bool.true_and, Bool.and_self, Int.cast_ofNat_Int, tO, e3', ea, am_i_add, am_i_sub, am_i_mul, am_ok_i, am_i_cl, n_lt, n_le, n_eq, n_lt0, n_le0, n_0lt, n_0le, n_eq0, ne_eq, ↓reduceIte, not_true_eq_false, not_false_eq_true, and_true, true_and, and_false, false_and, eq_T, eq_F, lt_T, lt_F, le_T, le_F, qn_T, qn_F, and_F, b01_T, b01_F, e_isIn, Int32.toInt_toInt64, am_i_toInt, am_l_toInt, Int.toNat_natCast, Int.reduceToNat, Int.reduceAdd, Int.reduceSub, Int.reduceMul, Int.reduceNeg, Nat.reduceAdd, Nat.reduceMul, Nat.add_zero, Nat.mul_zero, Nat.zero_add, am_zb0, am_zb1, n2, q2, am_up_e]
      exact Wp_r ⟨_, J, R, rfl, rfl, fin⟩
    · simp (disch := first | assumption | omega) only [rM hm, ly_csm, ly_cam, ly_cf, ly_kd, ly_ln, ↓Bool.cond_decide, cond_true, cond_false, ↓bI_p, ↓bV_p, ↓bL_p, bIJ_s, bVJ_s, bLJ_s, ↓am_let_s, Nat.blt, Nat.ble, Bool.and_true, Bool.true_and, Bool.and_self, Int.cast_ofNat_Int, tO, e3', ea, am_i_add, am_i_sub, am_i_mul, am_ok_i, am_i_cl, n_lt, n_le, n_eq, n_lt0, n_le0, n_0lt, n_0le, n_eq0, ne_eq, ↓reduceIte, not_true_eq_false, not_false_eq_true, and_true, true_and, and_false, false_and, eq_T, eq_F, lt_T, lt_F, le_T, le_F, qn_T, qn_F, and_F, b01_T, b01_F, e_isIn, Int32.toInt_toInt64, am_i_toInt, am_l_toInt, Int.toNat_natCast, Int.reduceToNat, Int.reduceAdd, Int.reduceSub, Int.reduceMul, Int.reduceNeg, Nat.reduceAdd, Nat.reduceMul, Nat.add_zero, Nat.mul_zero, Nat.zero_add, am_zb0, am_zb1, n2, am_up_e]
      rw [q2]
      exact Wp_r ⟨_, J, R, rfl, rfl, fin⟩
  · refine ⟨am_i (-1), ?_⟩
    have xF : ∀ d, am_E (d + 1) 155 0 [(0, .ref 3), (1, .int (am_i 2))] [] (I, J, R, 138) = some (some (.int (am_i 0)), (am_up I 63 2 (I 63 2 + am_i 1), J, R, 138)) := fun d => e_refuse d 2 (by decide) I J R hx
    have g : ∀ q k, q ≠ 63 → am_up I 63 2 (I 63 2 + am_i 1) q k = I q k := fun q k e => am_up_o (by omega)
    have mF : ∀ d, am_E (d + 1) 250 0 [(0, .ref 64)] [] (am_up I 63 2 (I 63 2 + am_i 1), J, R, 138) = some (some (.int (am_i 0)), (am_up (am_up I 63 2 (I 63 2 + am_i 1)) 66 2 (I 66 2 + am_i 1), J, R, 138)) := fun d => by
      rw [sg_X12_isRefused_0]
      simp (disch := first | assumption | omega) only [rM hm, ly_csm, ly_cam, ly_cf, ly_kd, ly_ln, ↓Bool.cond_decide, cond_true, cond_false, ↓bI_p, ↓bV_p, ↓bL_p, bIJ_s, bVJ_s, bLJ_s, ↓am_let_s, Nat.blt, Nat.ble, Bool.and_true, Bool.true_and, Bool.and_self, Int.cast_ofNat_Int, am_i_add, am_i_sub, am_i_mul, am_ok_i, am_i_cl, n_lt, n_le, n_eq, n_lt0, n_le0, n_0lt, n_0le, n_eq0, ne_eq, ↓reduceIte, not_true_eq_false, not_false_eq_true, and_true, true_and, and_false, false_and, eq_T, eq_F, lt_T, lt_F, le_T, le_F, qn_T, qn_F, and_F, b01_T, b01_F, e_isIn, Int32.toInt_toInt64, am_i_toInt, am_l_toInt, Int.toNat_natCast, Int.reduceToNat, Int.reduceAdd, Int.reduceSub, Int.reduceMul, Int.reduceNeg, Nat.reduceAdd, Nat.reduceMul, Nat.add_zero, Nat.mul_zero, Nat.zero_add, am_zb0, am_zb1, am_up_o]
    have mF' : ∀ d, am_E (d + 1) 240 0 [(0, .ref 64), (1, .int (am_i 2))] [] (am_up I 63 2 (I 63 2 + am_i 1), J, R, 138) = some (some (.int (am_i (-1))), (am_up (am_up I 63 2 (I 63 2 + am_i 1)) 66 2 (I 66 2 + am_i 1), J, R, 138)) := fun d => by
      rw [sg_X12_refuses_0]
      simp (disch := first | assumption | omega) only [rM hm, ly_csm, ly_cam, ly_cf, ly_kd, ly_ln, ↓Bool.cond_decide, cond_true, cond_false, ↓bI_p, ↓bV_p, ↓bL_p, bIJ_s, bVJ_s, bLJ_s, ↓am_let_s, Nat.blt, Nat.ble, Bool.and_true, Bool.true_and, Bool.and_self, Int.cast_ofNat_Int, am_i_add, am_i_sub, am_i_mul, am_ok_i, am_i_cl, n_lt, n_le, n_eq, n_lt0, n_le0, n_0lt, n_0le, n_eq0, ne_eq, ↓reduceIte, not_true_eq_false, not_false_eq_true, and_true, true_and, and_false, false_and, eq_T, eq_F, lt_T, lt_F, le_T, le_F, qn_T, qn_F, and_F, b01_T, b01_F, e_isIn, Int32.toInt_toInt64, am_i_toInt, am_l_toInt, Int.toNat_natCast, Int.reduceToNat, Int.reduceAdd, Int.reduceSub, Int.reduceMul, Int.reduceNeg, Nat.reduceAdd, Nat.reduceMul, Nat.add_zero, Nat.mul_zero, Nat.zero_add, am_zb0, am_zb1, am_up_o]
    have mB := fun d => e_misBoat d (am_i z) nb (am_up I 63 2 (I 63 2 + am_i 1)) J R hm b3 (by rw [g _ _ (by omega)]; exact m1)
    have cl : am_E (d + 3) 124 0 [(0, .ref 3), (1, .int (am_i z)), (2, .int (am_i w))] [] (I, J, R, 138) = some (some (.int (am_i (-1))), (am_up I 63 2 (I 63 2 + am_i 1), J, R, 138)) := by
      rw [sg_X11_rosin_0]
      by_cases h1 : 0 ≤ z ∧ z < nb
      · by_cases h2 : 0 ≤ w ∧ w ≤ 99
        · by_cases h0 : w = 0
          · simp (disch := first | assumption | omega) only [rX hx, ly_csx, ly_cax, ly_cf, ly_kd, ly_ln, ↓Bool.cond_decide, cond_true, cond_false, ↓bI_p, ↓bV_p, ↓bL_p, bIJ_s, bVJ_s, bLJ_s, ↓am_let_s, Nat.blt, Nat.ble, Bool.and_true, Bool.true_and, Bool.and_self, Int.cast_ofNat_Int, am_i_add, am_i_sub, am_i_mul, am_ok_i, am_i_cl, n_lt, n_le, n_eq, n_lt0, n_le0, n_0lt, n_0le, n_eq0, ne_eq, ↓reduceIte, not_true_eq_false, not_false_eq_true, and_true, true_and, and_false, false_and, eq_T, eq_F, lt_T, lt_F, le_T, le_F, qn_T, qn_F, and_F, b01_T, b01_F, e_isIn, Int32.toInt_toInt64, am_i_toInt, am_l_toInt, Int.toNat_natCast, Int.reduceToNat, Int.reduceAdd, Int.reduceSub, Int.reduceMul, Int.reduceNeg, Nat.reduceAdd, Nat.reduceMul, Nat.add_zero, Nat.mul_zero, Nat.zero_add, am_zb0, am_zb1, h4, rC hx hc, xB, xM, b01_t h1, b01_t h2, sg_X11_rosin_30, xF]
          · have h3 : (s z.toNat).ro = 99 := by
              apply Classical.byContradiction
              exact fun e => hq ⟨h1, by omega, e⟩
            obtain ⟨hO, hb1, hb2⟩ := hbt z.toNat (by omega)
            have xS := fun d => e_slot (d := d) (I := I) (J := J) (b := z) (k := 2) hx (by omega) (by omega) (by omega) (by omega)
            rw [show (2 : Int).toNat = 2 from rfl, hb1.2.2.1, h3] at xS
            simp (disch := first | assumption | omega) only [rX hx, ly_csx, ly_cax, ly_cf, ly_kd, ly_ln, ↓Bool.cond_decide, cond_true, cond_false, ↓bI_p, ↓bV_p, ↓bL_p, bIJ_s, bVJ_s, bLJ_s, ↓am_let_s, Nat.blt, Nat.ble, Bool.and_true, Bool.true_and, Bool.and_self, Int.cast_ofNat_Int, am_i_add, am_i_sub, am_i_mul, am_ok_i, am_i_cl, n_lt, n_le, n_eq, n_lt0, n_le0, n_0lt, n_0le, n_eq0, ne_eq, ↓reduceIte, not_true_eq_false, not_false_eq_true, and_true, true_and, and_false, false_and, eq_T, eq_F, lt_T, lt_F, le_T, le_F, qn_T, qn_F, and_F, b01_T, b01_F, e_isIn, Int32.toInt_toInt64, am_i_toInt, am_l_toInt, Int.toNat_natCast, Int.reduceToNat, Int.reduceAdd, Int.reduceSub, Int.reduceMul, Int.reduceNeg, Nat.reduceAdd, Nat.reduceMul, Nat.add_zero, Nat.mul_zero, Nat.zero_add, am_zb0, am_zb1, h4, rC hx hc, xB, xM, b01_t h1, b01_t h2, xS, sg_X11_rosin_30, xF]
        · simp (disch := first | assumption | omega) only [rX hx, ly_csx, ly_cax, ly_cf, ly_kd, ly_ln, ↓Bool.cond_decide, cond_true, cond_false, ↓bI_p, ↓bV_p, ↓bL_p, bIJ_s, bVJ_s, bLJ_s, ↓am_let_s, Nat.blt, Nat.ble, Bool.and_true, Bool.true_and, Bool.and_self, Int.cast_ofNat_Int, am_i_add, am_i_sub, am_i_mul, am_ok_i, am_i_cl, n_lt, n_le, n_eq, n_lt0, n_le0, n_0lt, n_0le, n_eq0, ne_eq, ↓reduceIte, not_true_eq_false, not_false_eq_true, and_true, true_and, and_false, false_and, eq_T, eq_F, lt_T, lt_F, le_T, le_F, qn_T, qn_F, and_F, b01_T, b01_F, e_isIn, Int32.toInt_toInt64, am_i_toInt, am_l_toInt, Int.toNat_natCast, Int.reduceToNat, Int.reduceAdd, Int.reduceSub, Int.reduceMul, Int.reduceNeg, Nat.reduceAdd, Nat.reduceMul, Nat.add_zero, Nat.mul_zero, Nat.zero_add, am_zb0, am_zb1, h4, rC hx hc, xB, xM, b01_t h1, b01_f h2, sg_X11_rosin_30, xF]
      · simp (disch := first | assumption | omega) only [rX hx, ly_csx, ly_cax, ly_cf, ly_kd, ly_ln, ↓Bool.cond_decide, cond_true, cond_false, ↓bI_p, ↓bV_p, ↓bL_p, bIJ_s, bVJ_s, bLJ_s, ↓am_let_s, Nat.blt, Nat.ble, Bool.and_true, Bool.true_and, Bool.and_self, Int.cast_ofNat_Int, am_i_add, am_i_sub, am_i_mul, am_ok_i, am_i_cl, n_lt, n_le, n_eq, n_lt0, n_le0, n_0lt, n_0le, n_eq0, ne_eq, ↓reduceIte, not_true_eq_false, not_false_eq_true, and_true, true_and, and_false, false_and, eq_T, eq_F, lt_T, lt_F, le_T, le_F, qn_T, qn_F, and_F, b01_T, b01_F, e_isIn, Int32.toInt_toInt64, am_i_toInt, am_l_toInt, Int.toNat_natCast, Int.reduceToNat, Int.reduceAdd, Int.reduceSub, Int.reduceMul, Int.reduceNeg, Nat.reduceAdd, Nat.reduceMul, Nat.add_zero, Nat.mul_zero, Nat.zero_add, am_zb0, am_zb1, h4, rC hx hc, xB, b01_f h1, sg_X11_rosin_30, xF]
    refine Wp_e cl (Wp_r ⟨_, J, R, rfl, rfl, funext (fun k => g 1 k (by omega)), rfl, ?_⟩)
    have cm : am_E (d + 3) 252 0 [(0, .ref 64), (1, .int (am_i z)), (2, .int (am_i w))] [] (am_up I 63 2 (I 63 2 + am_i 1), J, R, 138) = some (some (.int (am_i (-1))), (am_up (am_up I 63 2 (I 63 2 + am_i 1)) 66 2 (I 66 2 + am_i 1), J, R, 138)) := by
      rw [sg_X12_rosin_0]
      by_cases h1 : 0 ≤ z ∧ z < nb
      · by_cases h2 : 1 ≤ w ∧ w ≤ 99
        · have h3 : (s z.toNat).ro = 99 := by
            apply Classical.byContradiction
            exact fun e => hq ⟨h1, h2, e⟩
          obtain ⟨hO, hb1, hb2⟩ := hbt z.toNat (by omega)
          have tO := fun d => e_rosinOf (d := d) (I := am_up I 63 2 (I 63 2 + am_i 1)) (J := J) (b := z) hm (by omega) (by omega)
          rw [g _ _ (by omega), (bX_i.mp hb2).2.2.1, h3] at tO
          simp (disch := first | assumption | omega) only [rM hm, ly_csm, ly_cam, ly_cf, ly_kd, ly_ln, ↓Bool.cond_decide, cond_true, cond_false, ↓bI_p, ↓bV_p, ↓bL_p, bIJ_s, bVJ_s, bLJ_s, ↓am_let_s, Nat.blt, Nat.ble, Bool.and_true, Bool.true_and, Bool.and_self, Int.cast_ofNat_Int, am_i_add, am_i_sub, am_i_mul, am_ok_i, am_i_cl, n_lt, n_le, n_eq, n_lt0, n_le0, n_0lt, n_0le, n_eq0, ne_eq, ↓reduceIte, not_true_eq_false, not_false_eq_true, and_true, true_and, and_false, false_and, eq_T, eq_F, lt_T, lt_F, le_T, le_F, qn_T, qn_F, and_F, b01_T, b01_F, e_isIn, Int32.toInt_toInt64, am_i_toInt, am_l_toInt, Int.toNat_natCast, Int.reduceToNat, Int.reduceAdd, Int.reduceSub, Int.reduceMul, Int.reduceNeg, Nat.reduceAdd, Nat.reduceMul, Nat.add_zero, Nat.mul_zero, Nat.zero_add, am_zb0, am_zb1, mB, b01_t h1, tO, sg_X12_rosin_30, mF']
        · simp (disch := first | assumption | omega) only [rM hm, ly_csm, ly_cam, ly_cf, ly_kd, ly_ln, ↓Bool.cond_decide, cond_true, cond_false, ↓bI_p, ↓bV_p, ↓bL_p, bIJ_s, bVJ_s, bLJ_s, ↓am_let_s, Nat.blt, Nat.ble, Bool.and_true, Bool.true_and, Bool.and_self, Int.cast_ofNat_Int, am_i_add, am_i_sub, am_i_mul, am_ok_i, am_i_cl, n_lt, n_le, n_eq, n_lt0, n_le0, n_0lt, n_0le, n_eq0, ne_eq, ↓reduceIte, not_true_eq_false, not_false_eq_true, and_true, true_and, and_false, false_and, eq_T, eq_F, lt_T, lt_F, le_T, le_F, qn_T, qn_F, and_F, b01_T, b01_F, e_isIn, Int32.toInt_toInt64, am_i_toInt, am_l_toInt, Int.toNat_natCast, Int.reduceToNat, Int.reduceAdd, Int.reduceSub, Int.reduceMul, Int.reduceNeg, Nat.reduceAdd, Nat.reduceMul, Nat.add_zero, Nat.mul_zero, Nat.zero_add, am_zb0, am_zb1, mB, b01_t h1, sg_X12_rosin_30, mF']
      · simp (disch := first | assumption | omega) only [rM hm, ly_csm, ly_cam, ly_cf, ly_kd, ly_ln, ↓Bool.cond_decide, cond_true, cond_false, ↓bI_p, ↓bV_p, ↓bL_p, bIJ_s, bVJ_s, bLJ_s, ↓am_let_s, Nat.blt, Nat.ble, Bool.and_true, Bool.true_and, Bool.and_self, Int.cast_ofNat_Int, am_i_add, am_i_sub, am_i_mul, am_ok_i, am_i_cl, n_lt, n_le, n_eq, n_lt0, n_le0, n_0lt, n_0le, n_eq0, ne_eq, ↓reduceIte, not_true_eq_false, not_false_eq_true, and_true, true_and, and_false, false_and, eq_T, eq_F, lt_T, lt_F, le_T, le_F, qn_T, qn_F, and_F, b01_T, b01_F, e_isIn, Int32.toInt_toInt64, am_i_toInt, am_l_toInt, Int.toNat_natCast, Int.reduceToNat, Int.reduceAdd, Int.reduceSub, Int.reduceMul, Int.reduceNeg, Nat.reduceAdd, Nat.reduceMul, Nat.add_zero, Nat.mul_zero, Nat.zero_add, am_zb0, am_zb1, mB, b01_f h1, sg_X12_rosin_30, mF']
    exact Wp_e cm (Wp_r ⟨_, J, R, rfl, rfl, vV_ref hV0 2⟩)
theorem p_note (d : Nat) (a1 a2 a3 : Int32) : pr_I (vV restW L xs) (d + 3) 126 254 [(1, .int a1), (2, .int a2), (3, .int a3)] := by
  refine pW_I ?_
  intro I J R hV
  have hV0 := hV
  obtain ⟨⟨h1, h2, hx, hm, hmu⟩, ht, hr, hf, hp, hs, hd, hw⟩ := hV
  obtain ⟨c, last, nb, nr, nw, wd, sq, K, nt, wf, fm, h4, hc, hB, hN, hF, ⟨h, s, ⟨hh, e66, g0, hbt⟩, ⟨ek, gk, hkp⟩, hKh⟩, hA, hX⟩ := hw
  obtain ⟨b1, b2, b3, b4, b5, b6, b7, b8, i0, m0, i1, m1, i2, m2, i3, m3, i4, m4, i5, m5, mS, mT, hnt, hky, hwf⟩ := hB
  obtain ⟨z, z1, z2, rfl⟩ := i32_z a1
  obtain ⟨y, y1, y2, rfl⟩ := i32_z a2
  obtain ⟨w, w1, w2, rfl⟩ := i32_z a3
  have xP := fun d => e_xisPlace (d := d) (J := J) (a := z) (k := y) (n := nt z.toNat) hx h4 hc b3 i1 z1 z2 y1 y2 (fun q1 q2 => ⟨(hnt _ (by omega)).1, (hnt _ (by omega)).2.1⟩)
  have xN := fun d M => e_isNote (d := d) w1 w2 M
  by_cases hq : ((0 ≤ z ∧ z < nb) ∧ 0 ≤ y ∧ y < nt z.toNat) ∧ (0 ≤ w ∧ w < 8) ∧ ((s z.toNat).sc y.toNat : Int) ≠ w
  · refine ⟨am_i 1, ?_⟩
    have hq1 := hq.1
    obtain ⟨b, rfl⟩ : ∃ n : Nat, z = n := ⟨z.toNat, by omega⟩
    have hb : b < nb := by omega
    have hnt6 : ∀ b, b < nb → nt b ≤ 6 := fun b hb => (hnt b hb).1
    obtain ⟨n6, n1, n2⟩ := hnt b hb
    obtain ⟨hO, hb1, hb2⟩ := hbt b hb
    have hBB : restB I c last nb nr nw wd sq nt wf := ⟨b1, b2, b3, b4, b5, b6, b7, b8, i0, m0, i1, m1, i2, m2, i3, m3, i4, m4, i5, m5, mS, mT, hnt, hky, hwf⟩
    obtain ⟨an, ax, Kf, hA1, hA2, an1, an2, ax1, ax2, hK0, hst⟩ := hA
    obtain ⟨v, rfl⟩ : ∃ n : Nat, w = n := ⟨w.toNat, by omega⟩
    obtain ⟨k, rfl⟩ : ∃ n : Nat, y = n := ⟨y.toNat, by omega⟩
    have hk : k < nt b := by have := hq1.2.2; rw [Int.toNat_natCast] at this; omega
    have hne : ((s b).sc k : Int) ≠ v := hq.2.2
    have kt := hO.2.2.2.2.2.2 k hk
    have xS := fun d => e_slot (d := d) (I := I) (J := J) (b := (b : Int)) (k := 5 + (k : Int)) hx (by omega) (by omega) (by omega) (by omega)
    have e5 : 11 * b + (5 + (k : Int)).toNat = 11 * b + (5 + k) := by omega
    rw [Int.toNat_natCast, e5, show 11 * b + (5 + k) = 11 * b + 5 + k by omega, hb1.2.2.2.2.2 k hk] at xS
    rw [sg_X11_note_0]
    simp (disch := first | assumption | omega) only [rX hx, ly_csx, ly_cax, ly_cf, ly_kd, ly_ln, ↓Bool.cond_decide, cond_true, cond_false, ↓bI_p, ↓bV_p, ↓bL_p, bIJ_s, bVJ_s, bLJ_s, ↓am_let_s, Nat.blt, Nat.ble, Bool.and_true, Bool.true_and, Bool.and_self, Int.cast_ofNat_Int, am_i_add, am_i_sub, am_i_mul, am_ok_i, am_i_cl, n_lt, n_le, n_eq, n_lt0, n_le0, n_0lt, n_0le, n_eq0, ne_eq, ↓reduceIte, not_true_eq_false, not_false_eq_true, and_true, true_and, and_false, false_and, eq_T, eq_F, lt_T, lt_F, le_T, le_F, qn_T, qn_F, and_F, b01_T, b01_F, e_isIn, Int32.toInt_toInt64, am_i_toInt, am_l_toInt, Int.toNat_natCast, Int.reduceToNat, Int.reduceAdd, Int.reduceSub, Int.reduceMul, Int.reduceNeg, Nat.reduceAdd, Nat.reduceMul, Nat.add_zero, Nat.mul_zero, Nat.zero_add, am_zb0, am_zb1, h4, rC hx hc, xP, xN, b01_t hq1, b01_t hq.2.1, xS]
    refine Wp_V (x_keep (n := an) (x := ax) hx hA1 hA2 ax1 an1) ?_
    rintro _ _ ⟨I1, rfl, rfl, k1, k2, k3, k4, k5⟩
    refine ⟨rfl, ?_⟩
    have eS := fun d => e_set (d := d) (I := I1) (J := J) (b := (b : Int)) (k := 5 + (k : Int)) (v := am_i v) hx (by omega) (by omega) (by omega) (by omega)
    rw [Int.toNat_natCast, e5] at eS
    simp (disch := first | assumption | omega) only [am_i_add, am_i_sub, am_i_mul, am_ok_i, am_i_cl, n_lt, n_le, n_eq, n_lt0, n_le0, n_0lt, n_0le, n_eq0, ne_eq, ↓reduceIte, not_true_eq_false, not_false_eq_true, and_true, true_and, and_false, false_and, eq_T, eq_F, lt_T, lt_F, le_T, le_F, qn_T, qn_F, and_F, b01_T, b01_F, e_isIn, Int32.toInt_toInt64, am_i_toInt, am_l_toInt, Int.toNat_natCast, Int.reduceToNat, Int.reduceAdd, Int.reduceSub, Int.reduceMul, Int.reduceNeg, Nat.reduceAdd, Nat.reduceMul, Nat.add_zero, Nat.mul_zero, Nat.zero_add, am_zb0, am_zb1, ↓Bool.cond_decide, cond_true, cond_false, ↓am_let_s, ↓bI_p, bIJ_s, ↓bV_p, bVJ_s, ↓bL_p, bLJ_s, ly_cf, Bool.and_self, Bool.and_true, eS]
    have g : ∀ q k', q ≠ 34 → q ≠ 33 → q ≠ 31 → am_up I1 31 (11 * b + (5 + k)) (am_i v) q k' = I q k' := fun q k' e1 e2 e3 => by rw [am_up_o (by omega), k5 q k' e1 e2]
    refine Wp_r ⟨_, J, R, rfl, rfl, funext (fun k => g 1 k (by omega) (by omega) (by omega)), rfl, ?_⟩
    have mB := fun d => e_misBoat d (am_i b) nb (am_up I1 31 (11 * b + (5 + k)) (am_i v)) J R hm b3 (by rw [g _ _ (by omega) (by omega) (by omega)]; exact m1)
    have mP := fun d => e_misPlace (d := d) (I := am_up I1 31 (11 * b + (5 + k)) (am_i v)) (J := J) (b := (b : Int)) (k := (k : Int)) (n := nt b) hm (by omega) (by omega) (by rw [Int.toNat_natCast, g _ _ (by omega) (by omega) (by omega)]; exact n2) n6 y1 y2
    have mPt : 0 ≤ (k : Int) ∧ (k : Int) < nt b := by omega
    have tO := fun d => e_noteOf (d := d) (I := am_up I1 31 (11 * b + (5 + k)) (am_i v)) (J := J) (b := (b : Int)) (k := (k : Int)) hm (by omega) (by omega) (by omega) (by omega)
    rw [Int.toNat_natCast, Int.toNat_natCast, g _ _ (by omega) (by omega) (by omega), (bX_i.mp hb2).2.2.2.2.2 k hk] at tO
    rw [sg_X12_note_0]
    simp (disch := first | assumption | omega) only [rM hm, ly_csm, ly_cam, ly_cf, ly_kd, ly_ln, ↓Bool.cond_decide, cond_true, cond_false, ↓bI_p, ↓bV_p, ↓bL_p, bIJ_s, bVJ_s, bLJ_s, ↓am_let_s, Nat.blt, Nat.ble, Bool.and_true, Bool.true_and, Bool.and_self, Int.cast_ofNat_Int, am_i_add, am_i_sub, am_i_mul, am_ok_i, am_i_cl, n_lt, n_le, n_eq, n_lt0, n_le0, n_0lt, n_0le, n_eq0, ne_eq, ↓reduceIte, not_true_eq_false, not_false_eq_true, and_true, true_and, and_false, false_and, eq_T, eq_F, lt_T, lt_F, le_T, le_F, qn_T, qn_F, and_F, b01_T, b01_F, e_isIn, Int32.toInt_toInt64, am_i_toInt, am_l_toInt, Int.toNat_natCast, Int.reduceToNat, Int.reduceAdd, Int.reduceSub, Int.reduceMul, Int.reduceNeg, Nat.reduceAdd, Nat.reduceMul, Nat.add_zero, Nat.mul_zero, Nat.zero_add, am_zb0, am_zb1, mB, mP, b01_t hq1.1, b01_t mPt, tO]
    refine Wp_V (m_keeps (n := an) (x := ax) hm hA1 hA2 (by rw [g _ _ (by omega) (by omega) (by omega)]; exact ax2) (by rw [g _ _ (by omega) (by omega) (by omega)]; exact an2)) ?_
    rintro _ _ ⟨I2, rfl, rfl, c1, c2, c3, c4, c5⟩
    refine ⟨rfl, ?_⟩
    have n2' : ((6 : Int) + 11 * (b : Int) + (k : Int)).toNat = 1 + 11 * b + (5 + k) := by omega
    simp (disch := first | assumption | omega) only [rM hm, ly_csm, ly_cam, ly_cf, ly_kd, ly_ln, ↓Bool.cond_decide, cond_true, cond_false, ↓bI_p, ↓bV_p, ↓bL_p, bIJ_s, bVJ_s, bLJ_s, ↓am_let_s, Nat.blt, Nat.ble, Bool.and_true, Bool.true_and, Bool.and_self, Int.cast_ofNat_Int, am_i_add, am_i_sub, am_i_mul, am_ok_i, am_i_cl, n_lt, n_le, n_eq, n_lt0, n_le0, n_0lt, n_0le, n_eq0, ne_eq, ↓reduceIte, not_true_eq_false, not_false_eq_true, and_true, true_and, and_false, false_and, eq_T, eq_F, lt_T, lt_F, le_T, le_F, qn_T, qn_F, and_F, b01_T, b01_F, e_isIn, Int32.toInt_toInt64, am_i_toInt, am_l_toInt, Int.toNat_natCast, Int.reduceToNat, Int.reduceAdd, Int.reduceSub, Int.reduceMul, Int.reduceNeg, Nat.reduceAdd, Nat.reduceMul, Nat.add_zero, Nat.mul_zero, Nat.zero_add, am_zb0, am_zb1, n2']
    refine Wp_r ⟨_, J, R, rfl, rfl, act_1 (j := 5 + k) (v := v) (x' := scS (s b) k v) hV0 h4 hc hBB hN hF hX b3 hnt6 hb (by omega) (scS_ok hO (by omega)) (fun f f' o hbx e => ?_) ⟨hh, e66, g0, hbt⟩ ⟨ek, gk, hkp⟩ hKh hA1 hA2 hK0 hst k1 k2 k3 k4 k5 c1 c2 c3 c4 c5⟩
    obtain ⟨x0, x1, x2, x3, x4, x5⟩ := hbx
    refine ⟨by rw [e _ (by omega) (by omega), if_neg (by omega)]; exact x0, by rw [e _ (by omega) (by omega), if_neg (by omega)]; exact x1, by rw [e _ (by omega) (by omega), if_neg (by omega)]; exact x2, by rw [e _ (by omega) (by omega), if_neg (by omega)]; exact x3, by rw [e _ (by omega) (by omega), if_neg (by omega)]; exact x4, fun i hi => ?_⟩
    show _ = am_i ((if i = k then v else (s b).sc i : Nat) : Int)
    by_cases ei : i = k
    · rw [if_pos ei, e _ (by omega) (by omega), if_pos (by omega)]
    · rw [if_neg ei, e _ (by omega) (by omega), if_neg (by omega)]
      exact x5 i hi
  · refine ⟨am_i 0, ?_⟩
    have xF : ∀ d, am_E (d + 1) 155 0 [(0, .ref 3), (1, .int (am_i 2))] [] (I, J, R, 138) = some (some (.int (am_i 0)), (am_up I 63 2 (I 63 2 + am_i 1), J, R, 138)) := fun d => e_refuse d 2 (by decide) I J R hx
    have g : ∀ q k, q ≠ 63 → am_up I 63 2 (I 63 2 + am_i 1) q k = I q k := fun q k e => am_up_o (by omega)
    have mF : ∀ d, am_E (d + 1) 250 0 [(0, .ref 64)] [] (am_up I 63 2 (I 63 2 + am_i 1), J, R, 138) = some (some (.int (am_i 0)), (am_up (am_up I 63 2 (I 63 2 + am_i 1)) 66 2 (I 66 2 + am_i 1), J, R, 138)) := fun d => by
      rw [sg_X12_isRefused_0]
      simp (disch := first | assumption | omega) only [rM hm, ly_csm, ly_cam, ly_cf, ly_kd, ly_ln, ↓Bool.cond_decide, cond_true, cond_false, ↓bI_p, ↓bV_p, ↓bL_p, bIJ_s, bVJ_s, bLJ_s, ↓am_let_s, Nat.blt, Nat.ble, Bool.and_true, Bool.true_and, Bool.and_self, Int.cast_ofNat_Int, am_i_add, am_i_sub, am_i_mul, am_ok_i, am_i_cl, n_lt, n_le, n_eq, n_lt0, n_le0, n_0lt, n_0le, n_eq0, ne_eq, ↓reduceIte, not_true_eq_false, not_false_eq_true, and_true, true_and, and_false, false_and, eq_T, eq_F, lt_T, lt_F, le_T, le_F, qn_T, qn_F, and_F, b01_T, b01_F, e_isIn, Int32.toInt_toInt64, am_i_toInt, am_l_toInt, Int.toNat_natCast, Int.reduceToNat, Int.reduceAdd, Int.reduceSub, Int.reduceMul, Int.reduceNeg, Nat.reduceAdd, Nat.reduceMul, Nat.add_zero, Nat.mul_zero, Nat.zero_add, am_zb0, am_zb1, am_up_o]
    have mF' : ∀ d, am_E (d + 1) 240 0 [(0, .ref 64), (1, .int (am_i 2))] [] (am_up I 63 2 (I 63 2 + am_i 1), J, R, 138) = some (some (.int (am_i (-1))), (am_up (am_up I 63 2 (I 63 2 + am_i 1)) 66 2 (I 66 2 + am_i 1), J, R, 138)) := fun d => by
      rw [sg_X12_refuses_0]
      simp (disch := first | assumption | omega) only [rM hm, ly_csm, ly_cam, ly_cf, ly_kd, ly_ln, ↓Bool.cond_decide, cond_true, cond_false, ↓bI_p, ↓bV_p, ↓bL_p, bIJ_s, bVJ_s, bLJ_s, ↓am_let_s, Nat.blt, Nat.ble, Bool.and_true, Bool.true_and, Bool.and_self, Int.cast_ofNat_Int, am_i_add, am_i_sub, am_i_mul, am_ok_i, am_i_cl, n_lt, n_le, n_eq, n_lt0, n_le0, n_0lt, n_0le, n_eq0, ne_eq, ↓reduceIte, not_true_eq_false, not_false_eq_true, and_true, true_and, and_false, false_and, eq_T, eq_F, lt_T, lt_F, le_T, le_F, qn_T, qn_F, and_F, b01_T, b01_F, e_isIn, Int32.toInt_toInt64, am_i_toInt, am_l_toInt, Int.toNat_natCast, Int.reduceToNat, Int.reduceAdd, Int.reduceSub, Int.reduceMul, Int.reduceNeg, Nat.reduceAdd, Nat.reduceMul, Nat.add_zero, Nat.mul_zero, Nat.zero_add, am_zb0, am_zb1, am_up_o]
    have mB := fun d => e_misBoat d (am_i z) nb (am_up I 63 2 (I 63 2 + am_i 1)) J R hm b3 (by rw [g _ _ (by omega)]; exact m1)
    have cl : am_E (d + 3) 126 0 [(0, .ref 3), (1, .int (am_i z)), (2, .int (am_i y)), (3, .int (am_i w))] [] (I, J, R, 138) = some (some (.int (am_i 0)), (am_up I 63 2 (I 63 2 + am_i 1), J, R, 138)) := by
      rw [sg_X11_note_0]
      by_cases h1 : (0 ≤ z ∧ z < nb) ∧ 0 ≤ y ∧ y < nt z.toNat
      · by_cases h2 : 0 ≤ w ∧ w < 8
        · have h3 : ((s z.toNat).sc y.toNat : Int) = w := by
            apply Classical.byContradiction
            exact fun e => hq ⟨h1, h2, e⟩
          obtain ⟨hO, hb1, hb2⟩ := hbt z.toNat (by omega)
          have n6 := (hnt z.toNat (by omega)).1
          have xS := fun d => e_slot (d := d) (I := I) (J := J) (b := z) (k := 5 + y) hx (by omega) (by omega) (by omega) (by omega)
          rw [show 11 * z.toNat + (5 + y).toNat = 11 * z.toNat + 5 + y.toNat by omega, hb1.2.2.2.2.2 y.toNat (by omega), h3] at xS
          simp (disch := first | assumption | omega) only [rX hx, ly_csx, ly_cax, ly_cf, ly_kd, ly_ln, ↓Bool.cond_decide, cond_true, cond_false, ↓bI_p, ↓bV_p, ↓bL_p, bIJ_s, bVJ_s, bLJ_s, ↓am_let_s, Nat.blt, Nat.ble, Bool.and_true, Bool.true_and, Bool.and_self, Int.cast_ofNat_Int, am_i_add, am_i_sub, am_i_mul, am_ok_i, am_i_cl, n_lt, n_le, n_eq, n_lt0, n_le0, n_0lt, n_0le, n_eq0, ne_eq, ↓reduceIte, not_true_eq_false, not_false_eq_true, and_true, true_and, and_false, false_and, eq_T, eq_F, lt_T, lt_F, le_T, le_F, qn_T, qn_F, and_F, b01_T, b01_F, e_isIn, Int32.toInt_toInt64, am_i_toInt, am_l_toInt, Int.toNat_natCast, Int.reduceToNat, Int.reduceAdd, Int.reduceSub, Int.reduceMul, Int.reduceNeg, Nat.reduceAdd, Nat.reduceMul, Nat.add_zero, Nat.mul_zero, Nat.zero_add, am_zb0, am_zb1, h4, rC hx hc, xP, xN, b01_t h1, b01_t h2, xS, sg_X11_note_28, xF]
        · simp (disch := first | assumption | omega) only [rX hx, ly_csx, ly_cax, ly_cf, ly_kd, ly_ln, ↓Bool.cond_decide, cond_true, cond_false, ↓bI_p, ↓bV_p, ↓bL_p, bIJ_s, bVJ_s, bLJ_s, ↓am_let_s, Nat.blt, Nat.ble, Bool.and_true, Bool.true_and, Bool.and_self, Int.cast_ofNat_Int, am_i_add, am_i_sub, am_i_mul, am_ok_i, am_i_cl, n_lt, n_le, n_eq, n_lt0, n_le0, n_0lt, n_0le, n_eq0, ne_eq, ↓reduceIte, not_true_eq_false, not_false_eq_true, and_true, true_and, and_false, false_and, eq_T, eq_F, lt_T, lt_F, le_T, le_F, qn_T, qn_F, and_F, b01_T, b01_F, e_isIn, Int32.toInt_toInt64, am_i_toInt, am_l_toInt, Int.toNat_natCast, Int.reduceToNat, Int.reduceAdd, Int.reduceSub, Int.reduceMul, Int.reduceNeg, Nat.reduceAdd, Nat.reduceMul, Nat.add_zero, Nat.mul_zero, Nat.zero_add, am_zb0, am_zb1, h4, rC hx hc, xP, xN, b01_t h1, b01_f h2, sg_X11_note_28, xF]
      · simp (disch := first | assumption | omega) only [rX hx, ly_csx, ly_cax, ly_cf, ly_kd, ly_ln, ↓Bool.cond_decide, cond_true, cond_false, ↓bI_p, ↓bV_p, ↓bL_p, bIJ_s, bVJ_s, bLJ_s, ↓am_let_s, Nat.blt, Nat.ble, Bool.and_true, Bool.true_and, Bool.and_self, Int.cast_ofNat_Int, am_i_add, am_i_sub, am_i_mul, am_ok_i, am_i_cl, n_lt, n_le, n_eq, n_lt0, n_le0, n_0lt, n_0le, n_eq0, ne_eq, ↓reduceIte, not_true_eq_false, not_false_eq_true, and_true, true_and, and_false, false_and, eq_T, eq_F, lt_T, lt_F, le_T, le_F, qn_T, qn_F, and_F, b01_T, b01_F, e_isIn, Int32.toInt_toInt64, am_i_toInt, am_l_toInt, Int.toNat_natCast, Int.reduceToNat, Int.reduceAdd, Int.reduceSub, Int.reduceMul, Int.reduceNeg, Nat.reduceAdd, Nat.reduceMul, Nat.add_zero, Nat.mul_zero, Nat.zero_add, am_zb0, am_zb1, h4, rC hx hc, xP, b01_f h1, sg_X11_note_28, xF]
    refine Wp_e cl (Wp_r ⟨_, J, R, rfl, rfl, funext (fun k => g 1 k (by omega)), rfl, ?_⟩)
    have cm : am_E (d + 3) 254 0 [(0, .ref 64), (1, .int (am_i z)), (2, .int (am_i y)), (3, .int (am_i w))] [] (am_up I 63 2 (I 63 2 + am_i 1), J, R, 138) = some (some (.int (am_i 0)), (am_up (am_up I 63 2 (I 63 2 + am_i 1)) 66 2 (I 66 2 + am_i 1), J, R, 138)) := by
      rw [sg_X12_note_0]
      by_cases h1 : 0 ≤ z ∧ z < nb
      · obtain ⟨n6, n1, n2⟩ := hnt z.toNat (by omega)
        have mP := fun d => e_misPlace (d := d) (I := am_up I 63 2 (I 63 2 + am_i 1)) (J := J) (b := z) (k := y) (n := nt z.toNat) hm (by omega) (by omega) (by rw [g _ _ (by omega)]; exact n2) n6 y1 y2
        by_cases h1' : 0 ≤ y ∧ y < nt z.toNat
        · by_cases h2 : 0 ≤ w ∧ w ≤ 7
          · have h3 : ((s z.toNat).sc y.toNat : Int) = w := by
              apply Classical.byContradiction
              exact fun e => hq ⟨⟨h1, h1'⟩, by omega, e⟩
            obtain ⟨hO, hb1, hb2⟩ := hbt z.toNat (by omega)
            have tO := fun d => e_noteOf (d := d) (I := am_up I 63 2 (I 63 2 + am_i 1)) (J := J) (b := z) (k := y) hm (by omega) (by omega) (by omega) (by omega)
            rw [g _ _ (by omega), (bX_i.mp hb2).2.2.2.2.2 y.toNat (by omega), h3] at tO
            simp (disch := first | assumption | omega) only [rM hm, ly_csm, ly_cam, ly_cf, ly_kd, ly_ln, ↓Bool.cond_decide, cond_true, cond_false, ↓bI_p, ↓bV_p, ↓bL_p, bIJ_s, bVJ_s, bLJ_s, ↓am_let_s, Nat.blt, Nat.ble, Bool.and_true, Bool.true_and, Bool.and_self, Int.cast_ofNat_Int, am_i_add, am_i_sub, am_i_mul, am_ok_i, am_i_cl, n_lt, n_le, n_eq, n_lt0, n_le0, n_0lt, n_0le, n_eq0, ne_eq, ↓reduceIte, not_true_eq_false, not_false_eq_true, and_true, true_and, and_false, false_and, eq_T, eq_F, lt_T, lt_F, le_T, le_F, qn_T, qn_F, and_F, b01_T, b01_F, e_isIn, Int32.toInt_toInt64, am_i_toInt, am_l_toInt, Int.toNat_natCast, Int.reduceToNat, Int.reduceAdd, Int.reduceSub, Int.reduceMul, Int.reduceNeg, Nat.reduceAdd, Nat.reduceMul, Nat.add_zero, Nat.mul_zero, Nat.zero_add, am_zb0, am_zb1, mB, mP, b01_t h1, b01_t h1', tO, sg_X12_note_40, mF]
          · simp (disch := first | assumption | omega) only [rM hm, ly_csm, ly_cam, ly_cf, ly_kd, ly_ln, ↓Bool.cond_decide, cond_true, cond_false, ↓bI_p, ↓bV_p, ↓bL_p, bIJ_s, bVJ_s, bLJ_s, ↓am_let_s, Nat.blt, Nat.ble, Bool.and_true, Bool.true_and, Bool.and_self, Int.cast_ofNat_Int, am_i_add, am_i_sub, am_i_mul, am_ok_i, am_i_cl, n_lt, n_le, n_eq, n_lt0, n_le0, n_0lt, n_0le, n_eq0, ne_eq, ↓reduceIte, not_true_eq_false, not_false_eq_true, and_true, true_and, and_false, false_and, eq_T, eq_F, lt_T, lt_F, le_T, le_F, qn_T, qn_F, and_F, b01_T, b01_F, e_isIn, Int32.toInt_toInt64, am_i_toInt, am_l_toInt, Int.toNat_natCast, Int.reduceToNat, Int.reduceAdd, Int.reduceSub, Int.reduceMul, Int.reduceNeg, Nat.reduceAdd, Nat.reduceMul, Nat.add_zero, Nat.mul_zero, Nat.zero_add, am_zb0, am_zb1, mB, mP, b01_t h1, b01_t h1', sg_X12_note_40, mF]
        · simp (disch := first | assumption | omega) only [rM hm, ly_csm, ly_cam, ly_cf, ly_kd, ly_ln, ↓Bool.cond_decide, cond_true, cond_false, ↓bI_p, ↓bV_p, ↓bL_p, bIJ_s, bVJ_s, bLJ_s, ↓am_let_s, Nat.blt, Nat.ble, Bool.and_true, Bool.true_and, Bool.and_self, Int.cast_ofNat_Int, am_i_add, am_i_sub, am_i_mul, am_ok_i, am_i_cl, n_lt, n_le, n_eq, n_lt0, n_le0, n_0lt, n_0le, n_eq0, ne_eq, ↓reduceIte, not_true_eq_false, not_false_eq_true, and_true, true_and, and_false, false_and, eq_T, eq_F, lt_T, lt_F, le_T, le_F, qn_T, qn_F, and_F, b01_T, b01_F, e_isIn, Int32.toInt_toInt64, am_i_toInt, am_l_toInt, Int.toNat_natCast, Int.reduceToNat, Int.reduceAdd, Int.reduceSub, Int.reduceMul, Int.reduceNeg, Nat.reduceAdd, Nat.reduceMul, Nat.add_zero, Nat.mul_zero, Nat.zero_add, am_zb0, am_zb1, mB, mP, b01_t h1, b01_f h1', sg_X12_note_40, mF]
      · simp (disch := first | assumption | omega) only [rM hm, ly_csm, ly_cam, ly_cf, ly_kd, ly_ln, ↓Bool.cond_decide, cond_true, cond_false, ↓bI_p, ↓bV_p, ↓bL_p, bIJ_s, bVJ_s, bLJ_s, ↓am_let_s, Nat.blt, Nat.ble, Bool.and_true, Bool.true_and, Bool.and_self, Int.cast_ofNat_Int, am_i_add, am_i_sub, am_i_mul, am_ok_i, am_i_cl, n_lt, n_le, n_eq, n_lt0, n_le0, n_0lt, n_0le, n_eq0, ne_eq, ↓reduceIte, not_true_eq_false, not_false_eq_true, and_true, true_and, and_false, false_and, eq_T, eq_F, lt_T, lt_F, le_T, le_F, qn_T, qn_F, and_F, b01_T, b01_F, e_isIn, Int32.toInt_toInt64, am_i_toInt, am_l_toInt, Int.toNat_natCast, Int.reduceToNat, Int.reduceAdd, Int.reduceSub, Int.reduceMul, Int.reduceNeg, Nat.reduceAdd, Nat.reduceMul, Nat.add_zero, Nat.mul_zero, Nat.zero_add, am_zb0, am_zb1, mB, b01_f h1, sg_X12_note_40, mF]
    exact Wp_e cm (Wp_r ⟨_, J, R, rfl, rfl, vV_ref hV0 2⟩)
end PACT
