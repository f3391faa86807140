/-! ===== hours, the pair ===== -/
section PHRS
variable {L : Nat} {xs : Nat → Int32}
theorem x_can {d : Nat} {I : tI} {J : tJ} {R : tR} {c last h : Nat} {z : Int} (hx : st_Rx R) (h4 : R 3 4 = c) (hc : c = 10 ∨ c = 20) (hl : last ≤ 60) (hc0 : I c 0 = am_i last) (hh : h ≤ 999) (e : I 31 66 = am_i h) (z1 : -2147483648 ≤ z) (z2 : z < 2147483648) : am_E (d + 2) 152 0 [(0, .ref 3), (1, .int (am_i z))] [] (I, J, R, 138) = some (some (.int (b01 (last ≠ 0 ∧ 1 ≤ z ∧ z ≤ (min 100 (999 - h) : Nat)))), (I, J, R, 138)) := by
  have xA : ∀ d, am_E (d + 1) 150 0 [(0, .ref 3), (1, .int (am_i 100))] [] (I, J, R, 138) = some (some (.int (am_i (min 100 (999 - h) : Nat))), (I, J, R, 138)) := fun d => x_ahead (m := 100) hx (by omega) hh e
  have xH := fun d => e_hasSound (d := d) (J := J) hx h4 hc hl hc0
  rw [sg_X11_canPass_0]
  by_cases q0 : last = 0
  · rw [b01_f (fun e => e.1 q0)]
    simp (disch := first | assumption | omega) only [rX hx, ly_csx, ly_cax, ly_cf, ly_kd, ly_ln, ↓Bool.cond_decide, cond_true, cond_false, ↓bI_p, ↓bV_p, ↓bL_p, bIJ_s, bVJ_s, bLJ_s, ↓am_let_s, Nat.blt, Nat.ble, Bool.and_true, Bool.true_and, Bool.and_self, Int.cast_ofNat_Int, am_i_add, am_i_sub, am_i_mul, am_ok_i, am_i_cl, n_lt, n_le, n_eq, n_lt0, n_le0, n_0lt, n_0le, n_eq0, ne_eq, ↓reduceIte, not_true_eq_false, not_false_eq_true, and_true, true_and, and_false, false_and, eq_T, eq_F, lt_T, lt_F, le_T, le_F, qn_T, qn_F, and_F, b01_T, b01_F, e_isIn, Int32.toInt_toInt64, am_i_toInt, am_l_toInt, Int.toNat_natCast, Int.reduceToNat, Int.reduceAdd, Int.reduceSub, Int.reduceMul, Int.reduceNeg, Nat.reduceAdd, Nat.reduceMul, Nat.add_zero, Nat.mul_zero, Nat.zero_add, am_zb0, am_zb1, xH, q0, sg_X11_canPass_26]
  · by_cases q : 1 ≤ z
    · by_cases q2 : z ≤ (min 100 (999 - h) : Nat)
      · rw [b01_t ⟨q0, q, q2⟩]
        simp (disch := first | assumption | omega) only [rX hx, ly_csx, ly_cax, ly_cf, ly_kd, ly_ln, ↓Bool.cond_decide, cond_true, cond_false, ↓bI_p, ↓bV_p, ↓bL_p, bIJ_s, bVJ_s, bLJ_s, ↓am_let_s, Nat.blt, Nat.ble, Bool.and_true, Bool.true_and, Bool.and_self, Int.cast_ofNat_Int, am_i_add, am_i_sub, am_i_mul, am_ok_i, am_i_cl, n_lt, n_le, n_eq, n_lt0, n_le0, n_0lt, n_0le, n_eq0, ne_eq, ↓reduceIte, not_true_eq_false, not_false_eq_true, and_true, true_and, and_false, false_and, eq_T, eq_F, lt_T, lt_F, le_T, le_F, qn_T, qn_F, and_F, b01_T, b01_F, e_isIn, Int32.toInt_toInt64, am_i_toInt, am_l_toInt, Int.toNat_natCast, Int.reduceToNat, Int.reduceAdd, Int.reduceSub, Int.reduceMul, Int.reduceNeg, Nat.reduceAdd, Nat.reduceMul, Nat.add_zero, Nat.mul_zero, Nat.zero_add, am_zb0, am_zb1, xH, q0, xA, sg_X11_canPass_26]
      · rw [b01_f (fun e => q2 e.2.2)]
        simp (disch := first | assumption | omega) only [rX hx, ly_csx, ly_cax, ly_cf, ly_kd, ly_ln, ↓Bool.cond_decide, cond_true, cond_false, ↓bI_p, ↓bV_p, ↓bL_p, bIJ_s, bVJ_s, bLJ_s, ↓am_let_s, Nat.blt, Nat.ble, Bool.and_true, Bool.true_and, Bool.and_self, Int.cast_ofNat_Int, am_i_add, am_i_sub, am_i_mul, am_ok_i, am_i_cl, n_lt, n_le, n_eq, n_lt0, n_le0, n_0lt, n_0le, n_eq0, ne_eq, ↓reduceIte, not_true_eq_false, not_false_eq_true, and_true, true_and, and_false, false_and, eq_T, eq_F, lt_T, lt_F, le_T, le_F, qn_T, qn_F, and_F, b01_T, b01_F, e_isIn, Int32.toInt_toInt64, am_i_toInt, am_l_toInt, Int.toNat_natCast, Int.reduceToNat, Int.reduceAdd, Int.reduceSub, Int.reduceMul, Int.reduceNeg, Nat.reduceAdd, Nat.reduceMul, Nat.add_zero, Nat.mul_zero, Nat.zero_add, am_zb0, am_zb1, xH, q0, xA, sg_X11_canPass_26]
    · rw [b01_f (fun e => q e.2.1)]
      simp (disch := first | assumption | omega) only [rX hx, ly_csx, ly_cax, ly_cf, ly_kd, ly_ln, ↓Bool.cond_decide, cond_true, cond_false, ↓bI_p, ↓bV_p, ↓bL_p, bIJ_s, bVJ_s, bLJ_s, ↓am_let_s, Nat.blt, Nat.ble, Bool.and_true, Bool.true_and, Bool.and_self, Int.cast_ofNat_Int, am_i_add, am_i_sub, am_i_mul, am_ok_i, am_i_cl, n_lt, n_le, n_eq, n_lt0, n_le0, n_0lt, n_0le, n_eq0, ne_eq, ↓reduceIte, not_true_eq_false, not_false_eq_true, and_true, true_and, and_false, false_and, eq_T, eq_F, lt_T, lt_F, le_T, le_F, qn_T, qn_F, and_F, b01_T, b01_F, e_isIn, Int32.toInt_toInt64, am_i_toInt, am_l_toInt, Int.toNat_natCast, Int.reduceToNat, Int.reduceAdd, Int.reduceSub, Int.reduceMul, Int.reduceNeg, Nat.reduceAdd, Nat.reduceMul, Nat.add_zero, Nat.mul_zero, Nat.zero_add, am_zb0, am_zb1, xH, q0, sg_X11_canPass_26]
theorem p_hours (d : Nat) (a1 : Int32) : pr_I (vV restW L xs) (d + 10) 127 255 [(1, .int a1)] := by
  refine pW_I ?_
  intro I J R hV
  have hV0 := hV
  obtain ⟨⟨h1, h2, hx, hm, hmu⟩, ht, hr, hf, hp, hs, hd, hw⟩ := hV
  obtain ⟨c, last, nb, nr, nw, wd, sq, K, nt, wf, fm, h4, hc, hB, hN, hF, ⟨h, s, ⟨hh, e66, g0, hbt⟩, ⟨ek, gk, hkp⟩, hKh⟩, hA, hX⟩ := hw
  obtain ⟨b1, b2, b3, b4, b5, b6, b7, b8, i0, m0, i1, m1, i2, m2, i3, m3, i4, m4, i5, m5, mS, mT, hnt, hky, hwf⟩ := hB
  obtain ⟨z, z1, z2, rfl⟩ := i32_z a1
  have xC := fun d => x_can (d := d) (J := J) (z := z) hx h4 hc b2 i0 hh e66 z1 z2
  by_cases hq : last ≠ 0 ∧ 1 ≤ z ∧ z ≤ (min 100 (999 - h) : Nat)
  · obtain ⟨m, rfl⟩ : ∃ n : Nat, z = n := ⟨z.toNat, by omega⟩
    have hl0 : last ≠ 0 := hq.1
    have hXx : cxX c last wd wf fm I := ⟨i0, b2, i4, b6, fun m hm => ⟨(hwf m hm).1, (hwf m hm).2.1⟩, fun f hf => ⟨(hF hl0 f hf).1, (hF hl0 f hf).2.2⟩⟩
    have hXm : cxM last wd nb nt wf fm I := ⟨m0, b2, m4, b6, m1, b3, fun b hb => ⟨(hnt b hb).1, (hnt b hb).2.2⟩, fun m hm => (hwf m hm).2.2, fun f hf => ⟨(hF hl0 f hf).2.1, (hF hl0 f hf).2.2⟩⟩
    have hRM : rwM nb nt last h s I := ⟨hh, g0, fun b hb => ⟨(hbt b hb).1, (hbt b hb).2.2⟩⟩
    have hnt6 : ∀ b, b < nb → nt b ≤ 6 := fun b hb => (hnt b hb).1
    have hR1 : rR R (am_up R 35 1 c) := rR_u (rR_r hmu) hc (Or.inl rfl)
    have hx1 := rR_x hR1 hx
    have hm1 := rR_m hR1 hm
    have h41 : am_up R 35 1 c 3 4 = c := h4
    have hBB : restB I c last nb nr nw wd sq nt wf := ⟨b1, b2, b3, b4, b5, b6, b7, b8, i0, m0, i1, m1, i2, m2, i3, m3, i4, m4, i5, m5, mS, mT, hnt, hky, hwf⟩
    obtain ⟨an, ax, Kf, hA1, hA2, an1, an2, ax1, ax2, hK0, hst⟩ := hA
    obtain ⟨Ls, hLK, hLo, hLx, hLg⟩ := kept_L ⟨ek, gk, hkp⟩
    refine ⟨am_i (0 + ruC last nb wf fm nt (List.replicate m wd) s : Nat), ?_⟩
    rw [sg_X11_hours_0]
    simp (disch := first | assumption | omega) only [rX hx, ly_csx, ly_cax, ly_cf, ly_kd, ly_ln, ↓Bool.cond_decide, cond_true, cond_false, ↓bI_p, ↓bV_p, ↓bL_p, bIJ_s, bVJ_s, bLJ_s, ↓am_let_s, Nat.blt, Nat.ble, Bool.and_true, Bool.true_and, Bool.and_self, Int.cast_ofNat_Int, am_i_add, am_i_sub, am_i_mul, am_ok_i, am_i_cl, n_lt, n_le, n_eq, n_lt0, n_le0, n_0lt, n_0le, n_eq0, ne_eq, ↓reduceIte, not_true_eq_false, not_false_eq_true, and_true, true_and, and_false, false_and, eq_T, eq_F, lt_T, lt_F, le_T, le_F, qn_T, qn_F, and_F, b01_T, b01_F, e_isIn, Int32.toInt_toInt64, am_i_toInt, am_l_toInt, Int.toNat_natCast, Int.reduceToNat, Int.reduceAdd, Int.reduceSub, Int.reduceMul, Int.reduceNeg, Nat.reduceAdd, Nat.reduceMul, Nat.add_zero, Nat.mul_zero, Nat.zero_add, am_zb0, am_zb1, xC, b01_t hq]
    refine Wp_V (x_keep (n := an) (x := ax) hx hA1 hA2 ax1 an1) ?_
    rintro _ _ ⟨Ik, rfl, rfl, k1, k2, k3, k4, k5⟩
    refine ⟨rfl, ?_⟩
    have hXk : cxX c last wd wf fm Ik := cxX_c hc (fun q k a1 a2 => k5 q k (by omega) (by omega)) hXx
    have e31 : Ik 31 = I 31 := funext fun k => k5 _ _ (by omega) (by omega)
    have e32 : Ik 32 = I 32 := funext fun k => k5 _ _ (by omega) (by omega)
    have lp := x_hrs (d := d + 1) (J := J) (R0 := R) (I0 := Ik) (z := m) hx h4 hc b3 hXk (by rw [k5 _ _ (by omega) (by omega)]; exact i1) (fun b hb => ⟨hnt6 b hb, by rw [k5 _ _ (by omega) (by omega)]; exact (hnt b hb).2.1⟩) (by omega) m 0 h 0 s Ls Ik R (by omega) (by omega) (by omega) ⟨rR_r hmu, fun _ _ _ => rfl, ⟨hh, by rw [e31]; exact e66, fun b hb => ⟨(hbt b hb).1, by rw [e31]; exact (hbt b hb).2.1⟩⟩, by rw [e31, e32]; exact hLx⟩
    refine Wp_m lp ?_
    rintro _ _ ⟨I1, R1, rfl, rfl, ⟨r1, r2, r3, r4⟩, r5⟩
    have g : ∀ q k, ¬ xHc q → q ≠ 33 → q ≠ 34 → I1 q k = I q k := fun q k e1 e2 e3 => by rw [r2 q k e1, k5 q k e3 e2]
    refine ⟨I1, J, R1, rfl, rfl, funext (fun k => g 1 k (by unfold xHc; omega) (by omega) (by omega)), r1.1 _ _ (by omega), ?_⟩
    have hmR := rR_m r1 hm
    have mA : ∀ d, am_E (d + 2) 215 0 [(0, .ref 64), (1, .int (am_i m)), (2, .int (am_i 1)), (3, .int (am_i 100))] [] (I1, J, R1, 138) = _ := fun d => m_isAhead (d := d) (J := J) (z := (m : Int)) (lo := 1) (hi := 100) (last := last) hmR hh (by rw [g _ _ (by unfold xHc; omega) (by omega) (by omega)]; exact g0) (by rw [g _ _ (by unfold xHc; omega) (by omega) (by omega)]; exact mS) z1 z2 (by omega) (by omega)
    have mAt : last ≠ 0 ∧ (((1 : Nat) : Int)) ≤ (m : Int) ∧ (m : Int) ≤ ((100 : Nat) : Int) ∧ (h : Int) + m ≤ 999 := ⟨hl0, by omega, by omega, by omega⟩
    rw [sg_X12_hours_0]
    simp (disch := first | assumption | omega) only [ly_csm, am_i_add, am_i_sub, am_i_mul, am_ok_i, am_i_cl, n_lt, n_le, n_eq, n_lt0, n_le0, n_0lt, n_0le, n_eq0, ne_eq, ↓reduceIte, not_true_eq_false, not_false_eq_true, and_true, true_and, and_false, false_and, eq_T, eq_F, lt_T, lt_F, le_T, le_F, qn_T, qn_F, and_F, b01_T, b01_F, e_isIn, Int32.toInt_toInt64, am_i_toInt, am_l_toInt, Int.toNat_natCast, Int.reduceToNat, Int.reduceAdd, Int.reduceSub, Int.reduceMul, Int.reduceNeg, Nat.reduceAdd, Nat.reduceMul, Nat.add_zero, Nat.mul_zero, Nat.zero_add, am_zb0, am_zb1, ↓Bool.cond_decide, cond_true, cond_false, ↓am_let_s, ↓bI_p, bIJ_s, ↓bV_p, bVJ_s, ↓bL_p, bLJ_s, ly_cf, Bool.and_self, Bool.and_true, rM hmR, mA, b01_t mAt]
    refine Wp_V (m_keeps (n := an) (x := ax) hmR hA1 hA2 (by rw [g _ _ (by unfold xHc; omega) (by omega) (by omega)]; exact ax2) (by rw [g _ _ (by unfold xHc; omega) (by omega) (by omega)]; exact an2)) ?_
    rintro _ _ ⟨I2, rfl, rfl, c1, c2, c3, c4, c5⟩
    refine ⟨rfl, ?_⟩
    simp (disch := first | assumption | omega) only [am_i_add, am_i_sub, am_i_mul, am_ok_i, am_i_cl, n_lt, n_le, n_eq, n_lt0, n_le0, n_0lt, n_0le, n_eq0, ne_eq, ↓reduceIte, not_true_eq_false, not_false_eq_true, and_true, true_and, and_false, false_and, eq_T, eq_F, lt_T, lt_F, le_T, le_F, qn_T, qn_F, and_F, b01_T, b01_F, e_isIn, Int32.toInt_toInt64, am_i_toInt, am_l_toInt, Int.toNat_natCast, Int.reduceToNat, Int.reduceAdd, Int.reduceSub, Int.reduceMul, Int.reduceNeg, Nat.reduceAdd, Nat.reduceMul, Nat.add_zero, Nat.mul_zero, Nat.zero_add, am_zb0, am_zb1, ↓Bool.cond_decide, cond_true, cond_false, ↓am_let_s, ↓bI_p, bIJ_s, ↓bV_p, bVJ_s, ↓bL_p, bLJ_s, ly_cf, Bool.and_self, Bool.and_true]
    have g2 : ∀ q k, ¬ xHc q → q ≠ 33 → q ≠ 34 → q ≠ 110 → ¬ (q = 64 ∧ (k = 68 ∨ k = 69)) → I2 q k = I q k := fun q k e1 e2 e3 e4 e5 => by rw [c5 q k e4 e5, g q k e1 e2 e3]
    have hXm2 : cxM last wd nb nt wf fm I2 := cxM_c (fun q k a1 a2 => g2 q k (by unfold xHc; omega) (by omega) (by omega) (by omega) (by omega)) hXm
    have e103 : ∀ k, am_up I2 64 59 (am_i 0) 103 k = I 103 k := fun k => by rw [am_up_o (by omega), g2 _ _ (by unfold xHc; omega) (by omega) (by omega) (by omega) (by omega)]
    have ml := m_hrs (d := d + 1) (R := R1) (I0 := I2) (J0 := J) (z := m) hmR hXm2 (by rw [g2 _ _ (by unfold xHc; omega) (by omega) (by omega) (by omega) (by omega)]; exact mT) (by omega) m 0 h 0 s Ls (am_up I2 64 59 (am_i 0)) J (by omega) (by omega) am_up_e ⟨frJ_r _, fun q k e => am_up_o (fun x => e (Or.inr (Or.inr ⟨x.1, by omega⟩))), rwM_c hRM b3 hnt6 (fun k _ => e103 k), keptG_c hLg (fun k _ => e103 k)⟩
    refine Wp_V (Wp_e (sg_X12_hoursGo_0 _ _ _ _) ml) ?_
    rintro _ _ ⟨I3, J3, rfl, rfl, ⟨t1, t2, t3, t4⟩, t5⟩
    refine ⟨rfl, ?_⟩
    have t5' : I3 64 59 = am_i ((0 + ruC last nb wf fm nt (List.replicate m wd) s : Nat) : Int) := by
      rw [t5]
      congr 1
    simp (disch := first | assumption | omega) only [↓Bool.cond_decide, cond_true, cond_false, ↓am_let_s, ↓bI_p, bIJ_s, ↓bV_p, bVJ_s, ↓bL_p, bLJ_s, ly_cf, Bool.and_self, Bool.and_true, t5']
    have l6 := ruL_6 (last := last) (nb := nb) (wf := wf) (fm := fm) (nt := nt) (List.replicate m wd) h s
    have lo := ruL_o (last := last) (nb := nb) (wf := wf) (fm := fm) (nt := nt) (List.replicate m wd) h s
    have ln := ou_nb (last := last) (nb := nb) (nt := nt) s
    rw [List.length_replicate] at l6
    have l6' : nb * m ≤ 6 * m := Nat.mul_le_mul_right m b3
    refine Wp_r ⟨I3, J3, R1, rfl, rfl, act_h (L := Ls) (es := ruL last nb wf fm nt (List.replicate m wd) h s) hV0 h4 hc hBB hN hF hX b3 hnt6 ⟨hh, e66, g0, hbt⟩ ⟨ek, gk, hkp⟩ hKh hLK hA1 hA2 hK0 hst k1 k2 k3 k4 k5 r2 r3 r4 r5 c1 c2 c3 c4 c5 t2 t3 t4 (by omega) (by omega) (fun e he => ?_) (fun q k e1 e2 => t1 q k e1) r1⟩
    rcases List.mem_append.mp he with he | he
    · exact hLo e he
    · exact ruL_k b3 _ h s (by rw [List.length_replicate]; omega) e he
  · refine ⟨am_i (-1), ?_⟩
    have xF : ∀ d, am_E (d + 1) 155 0 [(0, .ref 3), (1, .int (am_i 3))] [] (I, J, R, 138) = some (some (.int (am_i 0)), (am_up I 63 3 (I 63 3 + am_i 1), J, R, 138)) := fun d => e_refuse d 3 (by decide) I J R hx
    have g : ∀ q k, q ≠ 63 → am_up I 63 3 (I 63 3 + am_i 1) q k = I q k := fun q k e => am_up_o (by omega)
    have mF' : ∀ d, am_E (d + 1) 240 0 [(0, .ref 64), (1, .int (am_i 3))] [] (am_up I 63 3 (I 63 3 + am_i 1), J, R, 138) = some (some (.int (am_i (-1))), (am_up (am_up I 63 3 (I 63 3 + am_i 1)) 66 3 (I 66 3 + am_i 1), J, R, 138)) := fun d => by
      rw [sg_X12_refuses_0]
      simp (disch := first | assumption | omega) only [rM hm, ly_csm, ly_cam, ly_cf, ly_kd, ly_ln, ↓Bool.cond_decide, cond_true, cond_false, ↓bI_p, ↓bV_p, ↓bL_p, bIJ_s, bVJ_s, bLJ_s, ↓am_let_s, Nat.blt, Nat.ble, Bool.and_true, Bool.true_and, Bool.and_self, Int.cast_ofNat_Int, am_i_add, am_i_sub, am_i_mul, am_ok_i, am_i_cl, n_lt, n_le, n_eq, n_lt0, n_le0, n_0lt, n_0le, n_eq0, ne_eq, ↓reduceIte, not_true_eq_false, not_false_eq_true, and_true, true_and, and_false, false_and, eq_T, eq_F, lt_T, lt_F, le_T, le_F, qn_T, qn_F, and_F, b01_T, b01_F, e_isIn, Int32.toInt_toInt64, am_i_toInt, am_l_toInt, Int.toNat_natCast, Int.reduceToNat, Int.reduceAdd, Int.reduceSub, Int.reduceMul, Int.reduceNeg, Nat.reduceAdd, Nat.reduceMul, Nat.add_zero, Nat.mul_zero, Nat.zero_add, am_zb0, am_zb1, am_up_o]
    have cl : am_E (d + 10) 127 0 [(0, .ref 3), (1, .int (am_i z))] [] (I, J, R, 138) = some (some (.int (am_i (-1))), (am_up I 63 3 (I 63 3 + am_i 1), J, R, 138)) := by
      rw [sg_X11_hours_0]
      simp (disch := first | assumption | omega) only [rX hx, ly_csx, ly_cax, ly_cf, ly_kd, ly_ln, ↓Bool.cond_decide, cond_true, cond_false, ↓bI_p, ↓bV_p, ↓bL_p, bIJ_s, bVJ_s, bLJ_s, ↓am_let_s, Nat.blt, Nat.ble, Bool.and_true, Bool.true_and, Bool.and_self, Int.cast_ofNat_Int, am_i_add, am_i_sub, am_i_mul, am_ok_i, am_i_cl, n_lt, n_le, n_eq, n_lt0, n_le0, n_0lt, n_0le, n_eq0, ne_eq, ↓reduceIte, not_true_eq_false, not_false_eq_true, and_true, true_and, and_false, false_and, eq_T, eq_F, lt_T, lt_F, le_T, le_F, qn_T, qn_F, and_F, b01_T, b01_F, e_isIn, Int32.toInt_toInt64, am_i_toInt, am_l_toInt, Int.toNat_natCast, Int.reduceToNat, Int.reduceAdd, Int.reduceSub, Int.reduceMul, Int.reduceNeg, Nat.reduceAdd, Nat.reduceMul, Nat.add_zero, Nat.mul_zero, Nat.zero_add, am_zb0, am_zb1, xC, b01_f hq, xF]
    refine Wp_e cl (Wp_r ⟨_, J, R, rfl, rfl, funext (fun k => g 1 k (by omega)), rfl, ?_⟩)
    have mA : ∀ d, am_E (d + 2) 215 0 [(0, .ref 64), (1, .int (am_i z)), (2, .int (am_i 1)), (3, .int (am_i 100))] [] (am_up I 63 3 (I 63 3 + am_i 1), J, R, 138) = _ := fun d => m_isAhead (d := d) (J := J) (z := z) (lo := 1) (hi := 100) (last := last) hm hh (by rw [g _ _ (by omega)]; exact g0) (by rw [g _ _ (by omega)]; exact mS) z1 z2 (by omega) (by omega)
    have ma : ¬ (last ≠ 0 ∧ (((1 : Nat) : Int)) ≤ z ∧ z ≤ ((100 : Nat) : Int) ∧ (h : Int) + z ≤ 999) := by omega
    have cm : am_E (d + 10) 255 0 [(0, .ref 64), (1, .int (am_i z))] [] (am_up I 63 3 (I 63 3 + am_i 1), J, R, 138) = some (some (.int (am_i (-1))), (am_up (am_up I 63 3 (I 63 3 + am_i 1)) 66 3 (I 66 3 + am_i 1), J, R, 138)) := by
      rw [sg_X12_hours_0]
      simp (disch := first | assumption | omega) only [rM hm, ly_csm, ly_cam, ly_cf, ly_kd, ly_ln, ↓Bool.cond_decide, cond_true, cond_false, ↓bI_p, ↓bV_p, ↓bL_p, bIJ_s, bVJ_s, bLJ_s, ↓am_let_s, Nat.blt, Nat.ble, Bool.and_true, Bool.true_and, Bool.and_self, Int.cast_ofNat_Int, am_i_add, am_i_sub, am_i_mul, am_ok_i, am_i_cl, n_lt, n_le, n_eq, n_lt0, n_le0, n_0lt, n_0le, n_eq0, ne_eq, ↓reduceIte, not_true_eq_false, not_false_eq_true, and_true, true_and, and_false, false_and, eq_T, eq_F, lt_T, lt_F, le_T, le_F, qn_T, qn_F, and_F, b01_T, b01_F, e_isIn, Int32.toInt_toInt64, am_i_toInt, am_l_toInt, Int.toNat_natCast, Int.reduceToNat, Int.reduceAdd, Int.reduceSub, Int.reduceMul, Int.reduceNeg, Nat.reduceAdd, Nat.reduceMul, Nat.add_zero, Nat.mul_zero, Nat.zero_add, am_zb0, am_zb1, mA, b01_f ma, mF']
    exact Wp_e cm (Wp_r ⟨_, J, R, rfl, rfl, vV_ref hV0 3⟩)
end PHRS
