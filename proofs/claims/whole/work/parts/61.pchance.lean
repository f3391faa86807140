/-! ===== chance, the reference and the pair ===== -/
section MCHANCE
variable {d : Nat} {R : tR} {last wd nb : Nat} {nt wf : Nat → Nat} {fm : Nat → List tok}
theorem m_ch {I0 : tI} {J0 : tJ} {z sq : Nat} (hm : st_Rm R) (hX : cxM last wd nb nt wf fm I0) (h58 : I0 64 58 = am_i 0) (hsq : I0 93 5 = am_i sq) (hsq1 : sq ≤ 100) (hz : z ≤ 100) : ∀ (m i h sd qn : Nat) (s : Nat → bt) (L : List ent) (I : tI) (J : tJ), i + m = z → h + m ≤ 999 → sd < 2147483648 → mRq nb nt last h s I0 (am_up J0 64 70 (am_l sd)) L I J → Wp (fun r M => ∃ I' J', r = some (.int (am_i (qn + (chS wd sq m sd).2.1 : Nat))) ∧ M = (I', J', R, 138) ∧ mRq nb nt last (h + m) (ruS last wf fm nt (chS wd sq m sd).1 s) I0 (am_up J0 64 70 (am_l (chS wd sq m sd).2.2)) (L ++ ruL last nb wf fm nt (chS wd sq m sd).1 h s) I' J') (am_E (d + 8) 258 25 [(0, .ref 64), (1, .int (am_i z)), (2, .int (am_i qn)), (3, .int (am_i i))] [] (I, J, R, 138))
  | 0, i, h, sd, qn, s, L, I, J, hi, hh, hsd, hq => by
    rw [sg_X12_chance_25]
    simp (disch := first | assumption | omega) only [am_i_add, am_i_sub, am_i_mul, am_ok_i, am_i_cl, n_lt, n_le, n_eq, n_lt0, n_le0, n_0lt, n_0le, n_eq0, ne_eq, ↓reduceIte, not_true_eq_false, not_false_eq_true, and_true, true_and, and_false, false_and, eq_T, eq_F, lt_T, lt_F, le_T, le_F, qn_T, qn_F, and_F, b01_T, b01_F, e_isIn, Int32.toInt_toInt64, am_i_toInt, am_l_toInt, Int.toNat_natCast, Int.reduceToNat, Int.reduceAdd, Int.reduceSub, Int.reduceMul, Int.reduceNeg, Nat.reduceAdd, Nat.reduceMul, Nat.add_zero, Nat.mul_zero, Nat.zero_add, am_zb0, am_zb1, ↓Bool.cond_decide, cond_true, cond_false, ↓am_let_s, ↓bI_p, bIJ_s, ↓bV_p, bVJ_s, ↓bL_p, bLJ_s, ly_cf, Bool.and_self, Bool.and_true]
    refine Wp_r ⟨I, J, rfl, rfl, ?_⟩
    show mRq nb nt last h s I0 (am_up J0 64 70 (am_l sd)) (L ++ []) I J
    rw [List.append_nil]
    exact hq
  | m + 1, i, h, sd, qn, s, L, I, J, hi, hh, hsd, hq => by
    have e4 : I 93 4 = am_i wd := by rw [hq.2.1 _ _ (by unfold mHc; omega)]; exact hX.2.2.1
    have e5 : I 93 5 = am_i sq := by rw [hq.2.1 _ _ (by unfold mHc; omega)]; exact hsq
    have e70 : J 64 70 = am_l sd := by rw [hq.1 _ _ (by omega), am_up_e]
    have drw : ∀ (J : tJ) (v v' : Nat), mRq nb nt last h s I0 (am_up J0 64 70 (am_l v)) L I J → mRq nb nt last h s I0 (am_up J0 64 70 (am_l v')) L I (am_up J 64 70 (am_l v')) := fun J v v' hq => by
      obtain ⟨p1, p2, p3, p4⟩ := hq
      refine ⟨fun q k e => ?_, p2, p3, p4⟩
      by_cases e2 : q = 64 ∧ k = 70
      · rw [e2.1, e2.2, am_up_e, am_up_e]
      · rw [am_up_o e2, am_up_o e2, p1 q k e, am_up_o e2]
    have D1 : ∀ d, am_E (d + 1) 257 0 [(0, .ref 64), (1, .int (am_i 100))] [] (I, J, R, 138) = some (some (.int (am_i ((nxS sd / 64 % 100 : Nat) : Int))), (I, am_up J 64 70 (am_l (nxS sd)), R, 138)) := fun d => m_draw (m := 100) hsd (by omega) (by omega) e70
    have D2 : ∀ d, am_E (d + 1) 257 0 [(0, .ref 64), (1, .int (am_i 10))] [] (I, am_up J 64 70 (am_l (nxS sd)), R, 138) = some (some (.int (am_i ((nxS (nxS sd) / 64 % 10 : Nat) : Int))), (I, am_up (am_up J 64 70 (am_l (nxS sd))) 64 70 (am_l (nxS (nxS sd))), R, 138)) := fun d => m_draw (m := 10) (nxS_b _) (by omega) (by omega) am_up_e
    have b100 : nxS sd / 64 % 100 < 100 := Nat.mod_lt _ (by decide)
    have b10 : nxS (nxS sd) / 64 % 10 < 10 := Nat.mod_lt _ (by decide)
    have hour : ∀ (J : tJ) (u sd' qn' : Nat), u ≤ 9 → sd' < 2147483648 → mRq nb nt last h s I0 (am_up J0 64 70 (am_l sd')) L I J → Wp (fun r M => ∃ I' J', r = some (.int (am_i (qn' + (chS wd sq m sd').2.1 : Nat))) ∧ M = (I', J', R, 138) ∧ mRq nb nt last (h + (m + 1)) (ruS last wf fm nt (u :: (chS wd sq m sd').1) s) I0 (am_up J0 64 70 (am_l (chS wd sq m sd').2.2)) (L ++ ruL last nb wf fm nt (u :: (chS wd sq m sd').1) h s) I' J') (am_E (d + 8) 258 64 [(0, .ref 64), (1, .int (am_i z)), (2, .int (am_i qn')), (3, .int (am_i i)), (4, .int (am_i u))] [] (I, J, R, 138)) := by
      intro J u sd' qn' hu hsd' hq
      obtain ⟨lm, -, -, h59⟩ := i32_z (I 64 59)
      rw [sg_X12_chance_64]
      simp (disch := first | assumption | omega) only [am_i_add, am_i_sub, am_i_mul, am_ok_i, am_i_cl, n_lt, n_le, n_eq, n_lt0, n_le0, n_0lt, n_0le, n_eq0, ne_eq, ↓reduceIte, not_true_eq_false, not_false_eq_true, and_true, true_and, and_false, false_and, eq_T, eq_F, lt_T, lt_F, le_T, le_F, qn_T, qn_F, and_F, b01_T, b01_F, e_isIn, Int32.toInt_toInt64, am_i_toInt, am_l_toInt, Int.toNat_natCast, Int.reduceToNat, Int.reduceAdd, Int.reduceSub, Int.reduceMul, Int.reduceNeg, Nat.reduceAdd, Nat.reduceMul, Nat.add_zero, Nat.mul_zero, Nat.zero_add, am_zb0, am_zb1, ↓Bool.cond_decide, cond_true, cond_false, ↓am_let_s, ↓bI_p, bIJ_s, ↓bV_p, bVJ_s, ↓bL_p, bLJ_s, ly_cf, Bool.and_self, Bool.and_true]
      refine Wp_V (m_rh hm hu hX (by omega) h58 h59 hq) ?_
      rintro _ _ ⟨I1, J1, rfl, rfl, hq1, -⟩
      refine ⟨rfl, ?_⟩
      simp (disch := first | assumption | omega) only [am_i_add, am_i_sub, am_i_mul, am_ok_i, am_i_cl, n_lt, n_le, n_eq, n_lt0, n_le0, n_0lt, n_0le, n_eq0, ne_eq, ↓reduceIte, not_true_eq_false, not_false_eq_true, and_true, true_and, and_false, false_and, eq_T, eq_F, lt_T, lt_F, le_T, le_F, qn_T, qn_F, and_F, b01_T, b01_F, e_isIn, Int32.toInt_toInt64, am_i_toInt, am_l_toInt, Int.toNat_natCast, Int.reduceToNat, Int.reduceAdd, Int.reduceSub, Int.reduceMul, Int.reduceNeg, Nat.reduceAdd, Nat.reduceMul, Nat.add_zero, Nat.mul_zero, Nat.zero_add, am_zb0, am_zb1, ↓Bool.cond_decide, cond_true, cond_false, ↓am_let_s, ↓bI_p, bIJ_s, ↓bV_p, bVJ_s, ↓bL_p, bLJ_s, ly_cf, Bool.and_self, Bool.and_true, am_i_s]
      refine Wp_m (m_ch hm hX h58 hsq hsq1 hz m (i + 1) (h + 1) sd' qn' _ _ I1 J1 (by omega) (by omega) hsd' hq1) ?_
      rintro _ _ ⟨I2, J2, rfl, rfl, hq2⟩
      refine ⟨I2, J2, rfl, rfl, ?_⟩
      rw [show h + (m + 1) = h + 1 + m by omega]
      show mRq nb nt last (h + 1 + m) (ruS last wf fm nt (chS wd sq m sd').1 (hrS last wf fm nt u s)) I0 _ (L ++ (entF (entB last wf fm u h nt s) 0 nb ++ ruL last nb wf fm nt (chS wd sq m sd').1 (h + 1) (hrS last wf fm nt u s))) I2 J2
      rw [← List.append_assoc]
      exact hq2
    rw [sg_X12_chance_25]
    by_cases qs : nxS sd / 64 % 100 < sq
    · have ec : chS wd sq (m + 1) sd = (nxS (nxS sd) / 64 % 10 :: (chS wd sq m (nxS (nxS sd))).1, (chS wd sq m (nxS (nxS sd))).2.1 + 1, (chS wd sq m (nxS (nxS sd))).2.2) := if_pos qs
      rw [ec]
      simp (disch := first | assumption | omega) only [rM hm, ly_csm, ly_cam, ly_cf, ly_kd, ly_ln, ↓Bool.cond_decide, cond_true, cond_false, ↓bI_p, ↓bV_p, ↓bL_p, bIJ_s, bVJ_s, bLJ_s, ↓am_let_s, Nat.blt, Nat.ble, Bool.and_true, Bool.true_and, Bool.and_self, Int.cast_ofNat_Int, am_i_add, am_i_sub, am_i_mul, am_ok_i, am_i_cl, n_lt, n_le, n_eq, n_lt0, n_le0, n_0lt, n_0le, n_eq0, ne_eq, ↓reduceIte, not_true_eq_false, not_false_eq_true, and_true, true_and, and_false, false_and, eq_T, eq_F, lt_T, lt_F, le_T, le_F, qn_T, qn_F, and_F, b01_T, b01_F, e_isIn, Int32.toInt_toInt64, am_i_toInt, am_l_toInt, Int.toNat_natCast, Int.reduceToNat, Int.reduceAdd, Int.reduceSub, Int.reduceMul, Int.reduceNeg, Nat.reduceAdd, Nat.reduceMul, Nat.add_zero, Nat.mul_zero, Nat.zero_add, am_zb0, am_zb1, e4, D1, e5, D2, am_i_s]
      refine Wp_m (hour (am_up (am_up J 64 70 (am_l (nxS sd))) 64 70 (am_l (nxS (nxS sd)))) (nxS (nxS sd) / 64 % 10) (nxS (nxS sd)) (qn + 1) (by omega) (nxS_b _) (drw _ _ _ (drw _ _ _ hq))) ?_
      rintro _ _ ⟨I2, J2, rfl, rfl, hq2⟩
      refine ⟨I2, J2, ?_, rfl, hq2⟩
      show some (Value.int (am_i ((qn + 1 + (chS wd sq m (nxS (nxS sd))).2.1 : Nat) : Int))) = some (Value.int (am_i ((qn + ((chS wd sq m (nxS (nxS sd))).2.1 + 1) : Nat) : Int)))
      congr 4
      omega
    · have ec : chS wd sq (m + 1) sd = (wd :: (chS wd sq m (nxS sd)).1, (chS wd sq m (nxS sd)).2.1, (chS wd sq m (nxS sd)).2.2) := if_neg qs
      rw [ec]
      simp (disch := first | assumption | omega) only [rM hm, ly_csm, ly_cam, ly_cf, ly_kd, ly_ln, ↓Bool.cond_decide, cond_true, cond_false, ↓bI_p, ↓bV_p, ↓bL_p, bIJ_s, bVJ_s, bLJ_s, ↓am_let_s, Nat.blt, Nat.ble, Bool.and_true, Bool.true_and, Bool.and_self, Int.cast_ofNat_Int, am_i_add, am_i_sub, am_i_mul, am_ok_i, am_i_cl, n_lt, n_le, n_eq, n_lt0, n_le0, n_0lt, n_0le, n_eq0, ne_eq, ↓reduceIte, not_true_eq_false, not_false_eq_true, and_true, true_and, and_false, false_and, eq_T, eq_F, lt_T, lt_F, le_T, le_F, qn_T, qn_F, and_F, b01_T, b01_F, e_isIn, Int32.toInt_toInt64, am_i_toInt, am_l_toInt, Int.toNat_natCast, Int.reduceToNat, Int.reduceAdd, Int.reduceSub, Int.reduceMul, Int.reduceNeg, Nat.reduceAdd, Nat.reduceMul, Nat.add_zero, Nat.mul_zero, Nat.zero_add, am_zb0, am_zb1, e4, D1, e5, am_i_s]
      exact hour (am_up J 64 70 (am_l (nxS sd))) wd (nxS sd) qn hX.2.2.2.1 (nxS_b _) (drw _ _ _ hq)
end MCHANCE
theorem vV_seed {L : Nat} {xs : Nat → Int32} {I : tI} {J : tJ} {R : tR} {sd : Nat} (hsd : sd < 2147483648) (hV : vV restW L xs I J R) : vV restW L xs (am_up I 3 17 (am_i sd)) (am_up J 64 70 (am_l sd)) R := by
  obtain ⟨⟨h1, h2, hx, hm, hmu⟩, ht, hr, hf, hp, hs, hd, hw⟩ := hV
  exact ⟨⟨by rw [am_up_ap]; exact h1, h2, hx, hm, hmu⟩, cg_up vTape_cg _ rfl ht, cg_up vRefd_cg _ rfl hr, cg_up vFault_cg _ rfl hf, cg_up vPic_cg _ rfl hp, cg_up vSeen_cg _ rfl hs, ⟨sd, hsd, am_up_e, am_up_e⟩, wC_J restW_C _ rfl (cg_up (wC_I restW_C _ _) _ rfl hw)⟩
theorem am_up_b {α : Type} {f : Nat → Nat → α} {a k : Nat} {u v : α} (h : f a k = v) : am_up (am_up f a k u) a k v = f := by
  funext c j
  by_cases e : c = a ∧ j = k
  · rw [e.1, e.2, am_up_e, h]
  · rw [am_up_o e, am_up_o e]
section PCHA
variable {L : Nat} {xs : Nat → Int32}
theorem p_chance (d : Nat) (a1 : Int32) : pr_I (vV restW L xs) (d + 10) 128 258 [(1, .int a1)] := by
  refine pW_I ?_
  intro I J R hV
  have hV0 := hV
  obtain ⟨⟨h1, h2, hx, hm, hmu⟩, ht, hr, hf, hp, hs, hd, hw⟩ := hV
  obtain ⟨c, last, nb, nr, nw, wd, sq, K, nt, wf, fm, h4, hc, hB, hN, hF, ⟨h, s, ⟨hh, e66, g0, hbt⟩, ⟨ek, gk, hkp⟩, hKh⟩, hA, hX⟩ := hw
  obtain ⟨b1, b2, b3, b4, b5, b6, b7, b8, i0, m0, i1, m1, i2, m2, i3, m3, i4, m4, i5, m5, mS, mT, hnt, hky, hwf⟩ := hB
  obtain ⟨z, z1, z2, rfl⟩ := i32_z a1
  have xC := fun d => x_can (d := d) (J := J) (z := z) hx h4 hc b2 i0 hh e66 z1 z2
  by_cases hq : last ≠ 0 ∧ 1 ≤ z ∧ z ≤ (min 100 (999 - h) : Nat)
  · obtain ⟨m, rfl⟩ : ∃ n : Nat, z = n := ⟨z.toNat, by omega⟩
    have hl0 : last ≠ 0 := hq.1
    have hXx : cxX c last wd wf fm I := ⟨i0, b2, i4, b6, fun m hm => ⟨(hwf m hm).1, (hwf m hm).2.1⟩, fun f hf => ⟨(hF hl0 f hf).1, (hF hl0 f hf).2.2⟩⟩
    have hXm : cxM last wd nb nt wf fm I := ⟨m0, b2, m4, b6, m1, b3, fun b hb => ⟨(hnt b hb).1, (hnt b hb).2.2⟩, fun m hm => (hwf m hm).2.2, fun f hf => ⟨(hF hl0 f hf).2.1, (hF hl0 f hf).2.2⟩⟩
    have hRM : rwM nb nt last h s I := ⟨hh, g0, fun b hb => ⟨(hbt b hb).1, (hbt b hb).2.2⟩⟩
    have hnt6 : ∀ b, b < nb → nt b ≤ 6 := fun b hb => (hnt b hb).1
    have hR1 : rR R (am_up R 35 1 c) := rR_u (rR_r hmu) hc (Or.inl rfl)
    have hx1 := rR_x hR1 hx
    have hm1 := rR_m hR1 hm
    have h41 : am_up R 35 1 c 3 4 = c := h4
    have hBB : restB I c last nb nr nw wd sq nt wf := ⟨b1, b2, b3, b4, b5, b6, b7, b8, i0, m0, i1, m1, i2, m2, i3, m3, i4, m4, i5, m5, mS, mT, hnt, hky, hwf⟩
    obtain ⟨sd, sd1, sd2, sd3⟩ := hd
    obtain ⟨an, ax, Kf, hA1, hA2, an1, an2, ax1, ax2, hK0, hst⟩ := hA
    obtain ⟨Ls, hLK, hLo, hLx, hLg⟩ := kept_L ⟨ek, gk, hkp⟩
    refine ⟨am_i (0 + (chS wd sq m sd).2.1 : Nat), ?_⟩
    rw [sg_X11_chance_0]
    simp (disch := first | assumption | omega) only [rX hx, ly_csx, ly_cax, ly_cf, ly_kd, ly_ln, ↓Bool.cond_decide, cond_true, cond_false, ↓bI_p, ↓bV_p, ↓bL_p, bIJ_s, bVJ_s, bLJ_s, ↓am_let_s, Nat.blt, Nat.ble, Bool.and_true, Bool.true_and, Bool.and_self, Int.cast_ofNat_Int, am_i_add, am_i_sub, am_i_mul, am_ok_i, am_i_cl, n_lt, n_le, n_eq, n_lt0, n_le0, n_0lt, n_0le, n_eq0, ne_eq, ↓reduceIte, not_true_eq_false, not_false_eq_true, and_true, true_and, and_false, false_and, eq_T, eq_F, lt_T, lt_F, le_T, le_F, qn_T, qn_F, and_F, b01_T, b01_F, e_isIn, Int32.toInt_toInt64, am_i_toInt, am_l_toInt, Int.toNat_natCast, Int.reduceToNat, Int.reduceAdd, Int.reduceSub, Int.reduceMul, Int.reduceNeg, Nat.reduceAdd, Nat.reduceMul, Nat.add_zero, Nat.mul_zero, Nat.zero_add, am_zb0, am_zb1, xC, b01_t hq]
    refine Wp_V (x_keep (n := an) (x := ax) hx hA1 hA2 ax1 an1) ?_
    rintro _ _ ⟨Ik, rfl, rfl, k1, k2, k3, k4, k5⟩
    refine ⟨rfl, ?_⟩
    have hXk : cxX c last wd wf fm Ik := cxX_c hc (fun q k a1 a2 => k5 q k (by omega) (by omega)) hXx
    have e31 : Ik 31 = I 31 := funext fun k => k5 _ _ (by omega) (by omega)
    have e32 : Ik 32 = I 32 := funext fun k => k5 _ _ (by omega) (by omega)
    have sdk : Ik 3 17 = am_i sd := by rw [k5 _ _ (by omega) (by omega)]; exact sd2
    have lp := x_ch (d := d + 1) (J := J) (R0 := R) (I0 := Ik) (z := m) (sq := sq) hx h4 hc b3 hXk (by rw [k5 _ _ (by omega) (by omega)]; exact i1) (by rw [k5 _ _ (by omega) (by omega)]; exact i5) b7 (fun b hb => ⟨hnt6 b hb, by rw [k5 _ _ (by omega) (by omega)]; exact (hnt b hb).2.1⟩) (by omega) m 0 h sd 0 s Ls Ik R (by omega) (by omega) sd1 (by omega) ⟨rR_r hmu, fun q k _ => by
      by_cases e : q = 3 ∧ k = 17
      · rw [e.1, e.2, am_up_e]; exact sdk
      · rw [am_up_o e], ⟨hh, by rw [e31]; exact e66, fun b hb => ⟨(hbt b hb).1, by rw [e31]; exact (hbt b hb).2.1⟩⟩, by rw [e31, e32]; exact hLx⟩
    refine Wp_m lp ?_
    rintro _ _ ⟨I1, R1, rfl, rfl, ⟨r1, r2, r3, r4⟩, r5⟩
    have g : ∀ q k, ¬ xHc q → q ≠ 33 → q ≠ 34 → q ≠ 3 → I1 q k = I q k := fun q k e1 e2 e3 e4 => by rw [r2 q k e1, am_up_o (by omega), k5 q k e3 e2]
    refine ⟨I1, J, R1, rfl, rfl, funext (fun k => g 1 k (by unfold xHc; omega) (by omega) (by omega) (by omega)), r1.1 _ _ (by omega), ?_⟩
    have hmR := rR_m r1 hm
    have mA : ∀ d, am_E (d + 2) 215 0 [(0, .ref 64), (1, .int (am_i m)), (2, .int (am_i 1)), (3, .int (am_i 100))] [] (I1, J, R1, 138) = _ := fun d => m_isAhead (d := d) (J := J) (z := (m : Int)) (lo := 1) (hi := 100) (last := last) hmR hh (by rw [g _ _ (by unfold xHc; omega) (by omega) (by omega) (by omega)]; exact g0) (by rw [g _ _ (by unfold xHc; omega) (by omega) (by omega) (by omega)]; exact mS) z1 z2 (by omega) (by omega)
    have mAt : last ≠ 0 ∧ (((1 : Nat) : Int)) ≤ (m : Int) ∧ (m : Int) ≤ ((100 : Nat) : Int) ∧ (h : Int) + m ≤ 999 := ⟨hl0, by omega, by omega, by omega⟩
    rw [sg_X12_chance_0]
    simp (disch := first | assumption | omega) only [ly_csm, am_i_add, am_i_sub, am_i_mul, am_ok_i, am_i_cl, n_lt, n_le, n_eq, n_lt0, n_le0, n_0lt, n_0le, n_eq0, ne_eq, ↓reduceIte, not_true_eq_false, not_false_eq_true, and_true, true_and, and_false, false_and, eq_T, eq_F, lt_T, lt_F, le_T, le_F, qn_T, qn_F, and_F, b01_T, b01_F, e_isIn, Int32.toInt_toInt64, am_i_toInt, am_l_toInt, Int.toNat_natCast, Int.reduceToNat, Int.reduceAdd, Int.reduceSub, Int.reduceMul, Int.reduceNeg, Nat.reduceAdd, Nat.reduceMul, Nat.add_zero, Nat.mul_zero, Nat.zero_add, am_zb0, am_zb1, ↓Bool.cond_decide, cond_true, cond_false, ↓am_let_s, ↓bI_p, bIJ_s, ↓bV_p, bVJ_s, ↓bL_p, bLJ_s, ly_cf, Bool.and_self, Bool.and_true, rM hmR, mA, b01_t mAt]
    refine Wp_V (m_keeps (n := an) (x := ax) hmR hA1 hA2 (by rw [g _ _ (by unfold xHc; omega) (by omega) (by omega) (by omega)]; exact ax2) (by rw [g _ _ (by unfold xHc; omega) (by omega) (by omega) (by omega)]; exact an2)) ?_
    rintro _ _ ⟨I2, rfl, rfl, c1, c2, c3, c4, c5⟩
    refine ⟨rfl, ?_⟩
    have g2 : ∀ q k, ¬ xHc q → q ≠ 33 → q ≠ 34 → q ≠ 110 → q ≠ 3 → ¬ (q = 64 ∧ (k = 68 ∨ k = 69)) → I2 q k = I q k := fun q k e1 e2 e3 e4 e6 e5 => by rw [c5 q k e4 e5, g q k e1 e2 e3 e6]
    have hXm2 : cxM last wd nb nt wf fm I2 := cxM_c (fun q k a1 a2 => g2 q k (by unfold xHc; omega) (by omega) (by omega) (by omega) (by omega) (by omega)) hXm
    have e103 : ∀ k, I2 103 k = I 103 k := fun k => g2 _ _ (by unfold xHc; omega) (by omega) (by omega) (by omega) (by omega) (by omega)
    have ml := m_ch (d := d + 2) (R := R1) (I0 := I2) (J0 := J) (z := m) (sq := sq) hmR hXm2 (by rw [g2 _ _ (by unfold xHc; omega) (by omega) (by omega) (by omega) (by omega) (by omega)]; exact mT) (by rw [g2 _ _ (by unfold xHc; omega) (by omega) (by omega) (by omega) (by omega) (by omega)]; exact m5) b7 (by omega) m 0 h sd 0 s Ls I2 J (by omega) (by omega) sd1 ⟨fun q k _ => by
      by_cases e : q = 64 ∧ k = 70
      · rw [e.1, e.2, am_up_e]; exact sd3
      · rw [am_up_o e], fun _ _ _ => rfl, rwM_c hRM b3 hnt6 (fun k _ => e103 k), keptG_c hLg (fun k _ => e103 k)⟩
    refine Wp_m ml ?_
    rintro _ _ ⟨I3, J3, rfl, rfl, t1, t2, t3, t4⟩
    have l6 := ruL_6 (last := last) (nb := nb) (wf := wf) (fm := fm) (nt := nt) (chS wd sq m sd).1 h s
    have lo := ruL_o (last := last) (nb := nb) (wf := wf) (fm := fm) (nt := nt) (chS wd sq m sd).1 h s
    have ln := ou_nb (last := last) (nb := nb) (nt := nt) s
    rw [chS_l] at l6
    have l6' : nb * m ≤ 6 * m := Nat.mul_le_mul_right m b3
    have sdb := chS_b (wd := wd) (sq := sq) m sd sd1
    generalize hsd' : (chS wd sq m sd).2.2 = sd' at *
    have s3 : I3 3 17 = am_i sd' := by rw [t2 _ _ (by unfold mHc; omega), c5 _ _ (by omega) (by omega), r2 _ _ (by unfold xHc; omega), am_up_e]
    have j3 : J3 64 70 = am_l sd' := by rw [t1 _ _ (by omega), am_up_e]
    have ub : ∀ {X Y : tI} {q k : Nat}, X q k = Y q k → am_up X 3 17 (I 3 17) q k = am_up Y 3 17 (I 3 17) q k := fun {X Y q k} e => by
      by_cases e2 : q = 3 ∧ k = 17
      · rw [e2.1, e2.2, am_up_e, am_up_e]
      · rw [am_up_o e2, am_up_o e2, e]
    have uI : am_up I 3 17 (I 3 17) = I := by
      funext q k
      by_cases e2 : q = 3 ∧ k = 17
      · rw [e2.1, e2.2, am_up_e]
      · rw [am_up_o e2]
    have fin : vV restW L xs (am_up I3 3 17 (I 3 17)) (am_up J3 64 70 (J 64 70)) R1 := by
      refine act_h (Ik := am_up Ik 3 17 (I 3 17)) (I1 := am_up I1 3 17 (I 3 17)) (I2 := am_up I2 3 17 (I 3 17)) (L := Ls) (es := ruL last nb wf fm nt (chS wd sq m sd).1 h s) (h' := h + m) (s' := ruS last wf fm nt (chS wd sq m sd).1 s) hV0 h4 hc hBB hN hF hX b3 hnt6 ⟨hh, e66, g0, hbt⟩ ⟨ek, gk, hkp⟩ hKh hLK hA1 hA2 hK0 hst k1 k2 k3 k4 (fun q k e1 e2 => ?_) (fun q k e => ?_) r3 r4 r5 c1 c2 c3 c4 (fun q k e1 e2 => ub (c5 q k e1 e2)) (fun q k e => ub (t2 q k e)) t3 t4 (by omega) (by omega) (fun e he => ?_) (fun q k e1 e2 => ?_) r1
      · have := ub (X := Ik) (Y := I) (k5 q k e1 e2)
        rw [uI] at this
        exact this
      · by_cases e2 : q = 3 ∧ k = 17
        · rw [e2.1, e2.2, am_up_e, am_up_e]
        · rw [am_up_o e2, am_up_o e2, r2 q k e, am_up_o e2]
      · rcases List.mem_append.mp he with he | he
        · exact hLo e he
        · exact ruL_k b3 _ h s (by rw [chS_l]; omega) e he
      · by_cases e3 : q = 64 ∧ k = 70
        · rw [e3.1, e3.2, am_up_e]
        · rw [am_up_o e3, t1 q k e1, am_up_o e3]
    have fin2 := vV_seed (sd := sd') sdb fin
    rw [am_up_b s3, am_up_b j3] at fin2
    exact ⟨I3, J3, R1, rfl, rfl, fin2⟩
  · refine ⟨am_i (-1), ?_⟩
    have xF : ∀ d, am_E (d + 1) 155 0 [(0, .ref 3), (1, .int (am_i 3))] [] (I, J, R, 138) = some (some (.int (am_i 0)), (am_up I 63 3 (I 63 3 + am_i 1), J, R, 138)) := fun d => e_refuse d 3 (by decide) I J R hx
    have g : ∀ q k, q ≠ 63 → am_up I 63 3 (I 63 3 + am_i 1) q k = I q k := fun q k e => am_up_o (by omega)
    have mF' : ∀ d, am_E (d + 1) 240 0 [(0, .ref 64), (1, .int (am_i 3))] [] (am_up I 63 3 (I 63 3 + am_i 1), J, R, 138) = some (some (.int (am_i (-1))), (am_up (am_up I 63 3 (I 63 3 + am_i 1)) 66 3 (I 66 3 + am_i 1), J, R, 138)) := fun d => by
      rw [sg_X12_refuses_0]
      simp (disch := first | assumption | omega) only [rM hm, ly_csm, ly_cam, ly_cf, ly_kd, ly_ln, ↓Bool.cond_decide, cond_true, cond_false, ↓bI_p, ↓bV_p, ↓bL_p, bIJ_s, bVJ_s, bLJ_s, ↓am_let_s, Nat.blt, Nat.ble, Bool.and_true, Bool.true_and, Bool.and_self, Int.cast_ofNat_Int, am_i_add, am_i_sub, am_i_mul, am_ok_i, am_i_cl, n_lt, n_le, n_eq, n_lt0, n_le0, n_0lt, n_0le, n_eq0, ne_eq, ↓reduceIte, not_true_eq_false, not_false_eq_true, and_true, true_and, and_false, false_and, eq_T, eq_F, lt_T, lt_F, le_T, le_F, qn_T, qn_F, and_F, b01_T, b01_F, e_isIn, Int32.toInt_toInt64, am_i_toInt, am_l_toInt, Int.toNat_natCast, Int.reduceToNat, Int.reduceAdd, Int.reduceSub, Int.reduceMul, Int.reduceNeg, Nat.reduceAdd, Nat.reduceMul, Nat.add_zero, Nat.mul_zero, Nat.zero_add, am_zb0, am_zb1, am_up_o]
    have cl : am_E (d + 10) 128 0 [(0, .ref 3), (1, .int (am_i z))] [] (I, J, R, 138) = some (some (.int (am_i (-1))), (am_up I 63 3 (I 63 3 + am_i 1), J, R, 138)) := by
      rw [sg_X11_chance_0]
      simp (disch := first | assumption | omega) only [rX hx, ly_csx, ly_cax, ly_cf, ly_kd, ly_ln, ↓Bool.cond_decide, cond_true, cond_false, ↓bI_p, ↓bV_p, ↓bL_p, bIJ_s, bVJ_s, bLJ_s, ↓am_let_s, Nat.blt, Nat.ble, Bool.and_true, Bool.true_and, Bool.and_self, Int.cast_ofNat_Int, am_i_add, am_i_sub, am_i_mul, am_ok_i, am_i_cl, n_lt, n_le, n_eq, n_lt0, n_le0, n_0lt, n_0le, n_eq0, ne_eq, ↓reduceIte, not_true_eq_false, not_false_eq_true, and_true, true_and, and_false, false_and, eq_T, eq_F, lt_T, lt_F, le_T, le_F, qn_T, qn_F, and_F, b01_T, b01_F, e_isIn, Int32.toInt_toInt64, am_i_toInt, am_l_toInt, Int.toNat_natCast, Int.reduceToNat, Int.reduceAdd, Int.reduceSub, Int.reduceMul, Int.reduceNeg, Nat.reduceAdd, Nat.reduceMul, Nat.add_zero, Nat.mul_zero, Nat.zero_add, am_zb0, am_zb1, xC, b01_f hq, xF]
    refine Wp_e cl (Wp_r ⟨_, J, R, rfl, rfl, funext (fun k => g 1 k (by omega)), rfl, ?_⟩)
    have mA : ∀ d, am_E (d + 2) 215 0 [(0, .ref 64), (1, .int (am_i z)), (2, .int (am_i 1)), (3, .int (am_i 100))] [] (am_up I 63 3 (I 63 3 + am_i 1), J, R, 138) = _ := fun d => m_isAhead (d := d) (J := J) (z := z) (lo := 1) (hi := 100) (last := last) hm hh (by rw [g _ _ (by omega)]; exact g0) (by rw [g _ _ (by omega)]; exact mS) z1 z2 (by omega) (by omega)
    have ma : ¬ (last ≠ 0 ∧ (((1 : Nat) : Int)) ≤ z ∧ z ≤ ((100 : Nat) : Int) ∧ (h : Int) + z ≤ 999) := by omega
    have cm : am_E (d + 10) 258 0 [(0, .ref 64), (1, .int (am_i z))] [] (am_up I 63 3 (I 63 3 + am_i 1), J, R, 138) = some (some (.int (am_i (-1))), (am_up (am_up I 63 3 (I 63 3 + am_i 1)) 66 3 (I 66 3 + am_i 1), J, R, 138)) := by
      rw [sg_X12_chance_0]
      simp (disch := first | assumption | omega) only [rM hm, ly_csm, ly_cam, ly_cf, ly_kd, ly_ln, ↓Bool.cond_decide, cond_true, cond_false, ↓bI_p, ↓bV_p, ↓bL_p, bIJ_s, bVJ_s, bLJ_s, ↓am_let_s, Nat.blt, Nat.ble, Bool.and_true, Bool.true_and, Bool.and_self, Int.cast_ofNat_Int, am_i_add, am_i_sub, am_i_mul, am_ok_i, am_i_cl, n_lt, n_le, n_eq, n_lt0, n_le0, n_0lt, n_0le, n_eq0, ne_eq, ↓reduceIte, not_true_eq_false, not_false_eq_true, and_true, true_and, and_false, false_and, eq_T, eq_F, lt_T, lt_F, le_T, le_F, qn_T, qn_F, and_F, b01_T, b01_F, e_isIn, Int32.toInt_toInt64, am_i_toInt, am_l_toInt, Int.toNat_natCast, Int.reduceToNat, Int.reduceAdd, Int.reduceSub, Int.reduceMul, Int.reduceNeg, Nat.reduceAdd, Nat.reduceMul, Nat.add_zero, Nat.mul_zero, Nat.zero_add, am_zb0, am_zb1, mA, b01_f ma, mF']
    exact Wp_e cm (Wp_r ⟨_, J, R, rfl, rfl, vV_ref hV0 3⟩)
end PCHA
