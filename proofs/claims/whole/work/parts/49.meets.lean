/-! ===== meets ===== -/
def mtF (last : Nat) (wf : Nat → Nat) (fm : Nat → List tok) (u n n' : Nat) : Nat → Nat → bt → bt → Int
  | 0, k, x, y => if x.mi = y.mi then (k : Int) else -1
  | m + 1, k, x, y => if x.mi = y.mi then (k : Int) else mtF last wf fm u n n' m (k + 1) (paS last wf fm u n x) (paS last wf fm u n' y)
theorem hullR_f {o n : Nat} {x : bt} {I I' : tI} (h : hullR o I n x) (e : ∀ q k, o ≤ q → q ≤ o + 6 → I' q k = I q k) : hullR o I' n x := by
  obtain ⟨h1, h2, h3, h4, h5, h6, h7⟩ := h
  exact ⟨by rw [e _ _ (by omega) (by omega)]; exact h1, by rw [e _ _ (by omega) (by omega)]; exact h2, by rw [e _ _ (by omega) (by omega)]; exact h3, by rw [e _ _ (by omega) (by omega)]; exact h4, by rw [e _ _ (by omega) (by omega)]; exact h5, by rw [e _ _ (by omega) (by omega)]; exact h6, fun k hk => by rw [e _ _ (by omega) (by omega)]; exact h7 k hk⟩
section MEETS
variable {d : Nat} {I : tI} {J : tJ} {R : tR} {c last wd nb n n' b b' : Nat} {nt wf : Nat → Nat} {fm : Nat → List tok} {h u : Nat}
theorem x_mt {z : Nat} (hx : st_Rx R) (h4 : R 3 4 = c) (hc : c = 10 ∨ c = 20) (hR : R 35 1 = c) (hR' : R 42 1 = c) (hn : n ≤ 6) (hn' : n' ≤ 6) (hz : z ≤ 60) : ∀ (m k : Nat) (x y : bt) (I : tI), k + m = z → cxX c last wd wf fm I → bOK last n x → bOK last n' y → hullR 35 I n x → hullR 42 I n' y → Wp (fun r M => ∃ I', r = some (.int (am_i (mtF last wf fm wd n n' m k x y))) ∧ M = (I', J, R, 138) ∧ ∀ q k, ¬ (35 ≤ q ∧ q ≤ 48) → I' q k = I q k) (am_E (d + 7) 115 65 [(0, .ref 3), (3, .int (am_i z)), (4, .int (am_i k))] [] (I, J, R, 138))
  | m, k, x, y, I, hk, hX, hO, hO', hH, hH' => by
    have hl := hX.2.1
    have e1 := hH.1
    have e2 := hH'.1
    have o1 := hO.1
    have o2 := hO'.1
    rw [sg_X11_meets_65]
    by_cases q : x.mi = y.mi
    · have e : mtF last wf fm wd n n' m k x y = k := by cases m <;> exact if_pos q
      simp (disch := first | assumption | omega) only [rX hx, ly_csx, ly_cax, ly_cf, ly_kd, ly_ln, ↓Bool.cond_decide, cond_true, cond_false, ↓bI_p, ↓bV_p, ↓bL_p, bIJ_s, bVJ_s, bLJ_s, ↓am_let_s, Nat.blt, Nat.ble, Bool.and_true, Bool.true_and, Bool.and_self, Int.cast_ofNat_Int, am_i_add, am_i_sub, am_i_mul, am_ok_i, am_i_cl, n_lt, n_le, n_eq, n_lt0, n_le0, n_0lt, n_0le, n_eq0, ne_eq, ↓reduceIte, not_true_eq_false, not_false_eq_true, and_true, true_and, and_false, false_and, eq_T, eq_F, lt_T, lt_F, le_T, le_F, qn_T, qn_F, and_F, b01_T, b01_F, e_isIn, Int32.toInt_toInt64, am_i_toInt, am_l_toInt, Int.toNat_natCast, Int.reduceToNat, Int.reduceAdd, Int.reduceSub, Int.reduceMul, Int.reduceNeg, Nat.reduceAdd, Nat.reduceMul, Nat.add_zero, Nat.mul_zero, Nat.zero_add, am_zb0, am_zb1, e1, e2]
      exact Wp_r ⟨I, by rw [e], rfl, fun _ _ _ => rfl⟩
    · have i4 := hX.2.2.1
      simp (disch := first | assumption | omega) only [rX hx, ly_csx, ly_cax, ly_cf, ly_kd, ly_ln, ↓Bool.cond_decide, cond_true, cond_false, ↓bI_p, ↓bV_p, ↓bL_p, bIJ_s, bVJ_s, bLJ_s, ↓am_let_s, Nat.blt, Nat.ble, Bool.and_true, Bool.true_and, Bool.and_self, Int.cast_ofNat_Int, am_i_add, am_i_sub, am_i_mul, am_ok_i, am_i_cl, n_lt, n_le, n_eq, n_lt0, n_le0, n_0lt, n_0le, n_eq0, ne_eq, ↓reduceIte, not_true_eq_false, not_false_eq_true, and_true, true_and, and_false, false_and, eq_T, eq_F, lt_T, lt_F, le_T, le_F, qn_T, qn_F, and_F, b01_T, b01_F, e_isIn, Int32.toInt_toInt64, am_i_toInt, am_l_toInt, Int.toNat_natCast, Int.reduceToNat, Int.reduceAdd, Int.reduceSub, Int.reduceMul, Int.reduceNeg, Nat.reduceAdd, Nat.reduceMul, Nat.add_zero, Nat.mul_zero, Nat.zero_add, am_zb0, am_zb1, rC hx hc, h4, e1, e2, i4]
      refine Wp_I (x_pass (o := 35) hx (Or.inl rfl) hc hR hX hn hO hH hX.2.2.2.1) ?_
      rintro _ _ ⟨I1, rfl, rfl, hf1, hH1⟩
      refine ⟨_, rfl, ?_⟩
      have hX1 : cxX c last wd wf fm I1 := cxX_c hc (fun q k a1 a2 => hf1 q k (hS_f.mpr (by omega))) hX
      have hH1' : hullR 42 I1 n' y := hullR_f hH' (fun q k a1 a2 => hf1 q k (hS_f.mpr (by omega)))
      have i41 := hX1.2.2.1
      simp (disch := first | assumption | omega) only [rX hx, ly_csx, ly_cax, ly_cf, ly_kd, ly_ln, ↓Bool.cond_decide, cond_true, cond_false, ↓bI_p, ↓bV_p, ↓bL_p, bIJ_s, bVJ_s, bLJ_s, ↓am_let_s, Nat.blt, Nat.ble, Bool.and_true, Bool.true_and, Bool.and_self, Int.cast_ofNat_Int, am_i_add, am_i_sub, am_i_mul, am_ok_i, am_i_cl, n_lt, n_le, n_eq, n_lt0, n_le0, n_0lt, n_0le, n_eq0, ne_eq, ↓reduceIte, not_true_eq_false, not_false_eq_true, and_true, true_and, and_false, false_and, eq_T, eq_F, lt_T, lt_F, le_T, le_F, qn_T, qn_F, and_F, b01_T, b01_F, e_isIn, Int32.toInt_toInt64, am_i_toInt, am_l_toInt, Int.toNat_natCast, Int.reduceToNat, Int.reduceAdd, Int.reduceSub, Int.reduceMul, Int.reduceNeg, Nat.reduceAdd, Nat.reduceMul, Nat.add_zero, Nat.mul_zero, Nat.zero_add, am_zb0, am_zb1, rC hx hc, h4, i41]
      refine Wp_I (x_pass (o := 42) hx (Or.inr rfl) hc hR' hX1 hn' hO' hH1' hX.2.2.2.1) ?_
      rintro _ _ ⟨I2, rfl, rfl, hf2, hH2⟩
      refine ⟨_, rfl, ?_⟩
      have g2 : ∀ q k, ¬ (35 ≤ q ∧ q ≤ 48) → I2 q k = I q k := fun q k e => by rw [hf2 q k (hS_f.mpr (by omega)), hf1 q k (hS_f.mpr (by omega))]
      simp (disch := first | assumption | omega) only [am_i_add, am_i_sub, am_i_mul, am_ok_i, am_i_cl, n_lt, n_le, n_eq, n_lt0, n_le0, n_0lt, n_0le, n_eq0, ne_eq, ↓reduceIte, not_true_eq_false, not_false_eq_true, and_true, true_and, and_false, false_and, eq_T, eq_F, lt_T, lt_F, le_T, le_F, qn_T, qn_F, and_F, b01_T, b01_F, e_isIn, Int32.toInt_toInt64, am_i_toInt, am_l_toInt, Int.toNat_natCast, Int.reduceToNat, Int.reduceAdd, Int.reduceSub, Int.reduceMul, Int.reduceNeg, Nat.reduceAdd, Nat.reduceMul, Nat.add_zero, Nat.mul_zero, Nat.zero_add, am_zb0, am_zb1, ↓Bool.cond_decide, cond_true, cond_false, ↓am_let_s, ↓bI_p, bIJ_s, ↓bV_p, bVJ_s, ↓bL_p, bLJ_s, ly_cf, Bool.and_self, Bool.and_true, am_i_s]
      cases m with
      | zero =>
        have e : mtF last wf fm wd n n' 0 k x y = -1 := if_neg q
        rw [sg_X11_meets_65]
        simp (disch := first | assumption | omega) only [am_i_add, am_i_sub, am_i_mul, am_ok_i, am_i_cl, n_lt, n_le, n_eq, n_lt0, n_le0, n_0lt, n_0le, n_eq0, ne_eq, ↓reduceIte, not_true_eq_false, not_false_eq_true, and_true, true_and, and_false, false_and, eq_T, eq_F, lt_T, lt_F, le_T, le_F, qn_T, qn_F, and_F, b01_T, b01_F, e_isIn, Int32.toInt_toInt64, am_i_toInt, am_l_toInt, Int.toNat_natCast, Int.reduceToNat, Int.reduceAdd, Int.reduceSub, Int.reduceMul, Int.reduceNeg, Nat.reduceAdd, Nat.reduceMul, Nat.add_zero, Nat.mul_zero, Nat.zero_add, am_zb0, am_zb1, ↓Bool.cond_decide, cond_true, cond_false, ↓am_let_s, ↓bI_p, bIJ_s, ↓bV_p, bVJ_s, ↓bL_p, bLJ_s, ly_cf, Bool.and_self, Bool.and_true]
        exact Wp_r ⟨I2, by rw [e], rfl, g2⟩
      | succ m =>
        have e : mtF last wf fm wd n n' (m + 1) k x y = mtF last wf fm wd n n' m (k + 1) (paS last wf fm wd n x) (paS last wf fm wd n' y) := if_neg q
        refine Wp_m (x_mt hx h4 hc hR hR' hn hn' hz m (k + 1) _ _ I2 (by omega) (cxX_c hc (fun q k a1 a2 => g2 q k (by omega)) hX) (paS_ok hO) (paS_ok hO') (hullR_f hH1 (fun q k a1 a2 => hf2 q k (hS_f.mpr (by omega)))) hH2) ?_
        rintro _ _ ⟨I3, rfl, rfl, hf3⟩
        exact ⟨I3, by rw [e], rfl, fun q k e => by rw [hf3 q k e, g2 q k e]⟩
theorem m_mt {I0 : tI} (hm : st_Rm R) (hX : cxM last wd nb nt wf fm I0) (hb : b < nb) (hb' : b' < nb) (h58 : I0 64 58 = am_i 0) : ∀ (m k h : Nat) (s : Nat → bt) (I : tI) (J : tJ), m = min (60 - k) (999 - h) → k ≤ 60 → thM I0 I → rwM nb nt last h s I → Wp (fun r M => ∃ I' J', r = some (.int (am_i (mtF last wf fm wd (nt b) (nt b') m k (s b) (s b')))) ∧ M = (I', J', R, 138) ∧ frJ J J' ∧ ∀ q k, ¬ sC q k → I' q k = I0 q k) (am_E (d + 8) 230 29 [(0, .ref 64), (1, .int (am_i b)), (2, .int (am_i b')), (3, .int (am_i k))] [] (I, J, R, 138))
  | m, k, h, s, I, J, hk, hkz, ht, hB => by
    have hl := hX.2.1
    have h6 := hX.2.2.2.2.2.1
    obtain ⟨hh, h0, hr⟩ := hB
    obtain ⟨hO, hbx⟩ := hr b hb
    obtain ⟨hO', hbx'⟩ := hr b' hb'
    have o1 := hO.1
    have o2 := hO'.1
    have e4 : I 93 4 = am_i wd := by rw [ht.2.2.2 _ _ (by unfold sC; omega) (by omega) (by omega)]; exact hX.2.2.1
    have t1 := fun d => e_mileOf (d := d) (I := I) (J := J) (b := (b : Int)) hm (by omega) (by omega)
    have t2 := fun d => e_mileOf (d := d) (I := I) (J := J) (b := (b' : Int)) hm (by omega) (by omega)
    rw [Int.toNat_natCast, (bX_i.mp hbx).1] at t1
    rw [Int.toNat_natCast, (bX_i.mp hbx').1] at t2
    have fin : ∀ (v : Int), v = (if (s b).mi = (s b').mi then (k : Int) else -1) → Wp (fun r M => ∃ I' J', r = some (.int (am_i v)) ∧ M = (I', J', R, 138) ∧ frJ J J' ∧ ∀ q k, ¬ sC q k → I' q k = I0 q k) (am_E (d + 8) 230 76 [(0, .ref 64), (1, .int (am_i b)), (2, .int (am_i b')), (3, .int (am_i k))] [] (I, J, R, 138)) := by
      intro v hv
      rw [sg_X12_meets_76]
      by_cases q : (s b).mi = (s b').mi
      · rw [if_pos q] at hv
        simp (disch := first | assumption | omega) only [am_i_add, am_i_sub, am_i_mul, am_ok_i, am_i_cl, n_lt, n_le, n_eq, n_lt0, n_le0, n_0lt, n_0le, n_eq0, ne_eq, ↓reduceIte, not_true_eq_false, not_false_eq_true, and_true, true_and, and_false, false_and, eq_T, eq_F, lt_T, lt_F, le_T, le_F, qn_T, qn_F, and_F, b01_T, b01_F, e_isIn, Int32.toInt_toInt64, am_i_toInt, am_l_toInt, Int.toNat_natCast, Int.reduceToNat, Int.reduceAdd, Int.reduceSub, Int.reduceMul, Int.reduceNeg, Nat.reduceAdd, Nat.reduceMul, Nat.add_zero, Nat.mul_zero, Nat.zero_add, am_zb0, am_zb1, ↓Bool.cond_decide, cond_true, cond_false, ↓am_let_s, ↓bI_p, bIJ_s, ↓bV_p, bVJ_s, ↓bL_p, bLJ_s, ly_cf, Bool.and_self, Bool.and_true, t1, t2]
        refine Wp_V (m_back hm ht h58) ?_
        rintro _ _ ⟨I', rfl, rfl, e5⟩
        refine ⟨rfl, ?_⟩
        simp (disch := first | assumption | omega) only [am_i_add, am_i_sub, am_i_mul, am_ok_i, am_i_cl, n_lt, n_le, n_eq, n_lt0, n_le0, n_0lt, n_0le, n_eq0, ne_eq, ↓reduceIte, not_true_eq_false, not_false_eq_true, and_true, true_and, and_false, false_and, eq_T, eq_F, lt_T, lt_F, le_T, le_F, qn_T, qn_F, and_F, b01_T, b01_F, e_isIn, Int32.toInt_toInt64, am_i_toInt, am_l_toInt, Int.toNat_natCast, Int.reduceToNat, Int.reduceAdd, Int.reduceSub, Int.reduceMul, Int.reduceNeg, Nat.reduceAdd, Nat.reduceMul, Nat.add_zero, Nat.mul_zero, Nat.zero_add, am_zb0, am_zb1, ↓Bool.cond_decide, cond_true, cond_false, ↓am_let_s, ↓bI_p, bIJ_s, ↓bV_p, bVJ_s, ↓bL_p, bLJ_s, ly_cf, Bool.and_self, Bool.and_true]
        exact Wp_r ⟨I', J, by rw [hv], rfl, frJ_r _, e5⟩
      · rw [if_neg q] at hv
        simp (disch := first | assumption | omega) only [am_i_add, am_i_sub, am_i_mul, am_ok_i, am_i_cl, n_lt, n_le, n_eq, n_lt0, n_le0, n_0lt, n_0le, n_eq0, ne_eq, ↓reduceIte, not_true_eq_false, not_false_eq_true, and_true, true_and, and_false, false_and, eq_T, eq_F, lt_T, lt_F, le_T, le_F, qn_T, qn_F, and_F, b01_T, b01_F, e_isIn, Int32.toInt_toInt64, am_i_toInt, am_l_toInt, Int.toNat_natCast, Int.reduceToNat, Int.reduceAdd, Int.reduceSub, Int.reduceMul, Int.reduceNeg, Nat.reduceAdd, Nat.reduceMul, Nat.add_zero, Nat.mul_zero, Nat.zero_add, am_zb0, am_zb1, ↓Bool.cond_decide, cond_true, cond_false, ↓am_let_s, ↓bI_p, bIJ_s, ↓bV_p, bVJ_s, ↓bL_p, bLJ_s, ly_cf, Bool.and_self, Bool.and_true, t1, t2]
        refine Wp_V (m_back hm ht h58) ?_
        rintro _ _ ⟨I', rfl, rfl, e5⟩
        refine ⟨rfl, ?_⟩
        simp (disch := first | assumption | omega) only [am_i_add, am_i_sub, am_i_mul, am_ok_i, am_i_cl, n_lt, n_le, n_eq, n_lt0, n_le0, n_0lt, n_0le, n_eq0, ne_eq, ↓reduceIte, not_true_eq_false, not_false_eq_true, and_true, true_and, and_false, false_and, eq_T, eq_F, lt_T, lt_F, le_T, le_F, qn_T, qn_F, and_F, b01_T, b01_F, e_isIn, Int32.toInt_toInt64, am_i_toInt, am_l_toInt, Int.toNat_natCast, Int.reduceToNat, Int.reduceAdd, Int.reduceSub, Int.reduceMul, Int.reduceNeg, Nat.reduceAdd, Nat.reduceMul, Nat.add_zero, Nat.mul_zero, Nat.zero_add, am_zb0, am_zb1, ↓Bool.cond_decide, cond_true, cond_false, ↓am_let_s, ↓bI_p, bIJ_s, ↓bV_p, bVJ_s, ↓bL_p, bLJ_s, ly_cf, Bool.and_self, Bool.and_true]
        exact Wp_r ⟨I', J, by rw [hv], rfl, frJ_r _, e5⟩
    rw [sg_X12_meets_29]
    by_cases q : (s b).mi = (s b').mi
    · have e : mtF last wf fm wd (nt b) (nt b') m k (s b) (s b') = k := by cases m <;> exact if_pos q
      simp (disch := first | assumption | omega) only [am_i_add, am_i_sub, am_i_mul, am_ok_i, am_i_cl, n_lt, n_le, n_eq, n_lt0, n_le0, n_0lt, n_0le, n_eq0, ne_eq, ↓reduceIte, not_true_eq_false, not_false_eq_true, and_true, true_and, and_false, false_and, eq_T, eq_F, lt_T, lt_F, le_T, le_F, qn_T, qn_F, and_F, b01_T, b01_F, e_isIn, Int32.toInt_toInt64, am_i_toInt, am_l_toInt, Int.toNat_natCast, Int.reduceToNat, Int.reduceAdd, Int.reduceSub, Int.reduceMul, Int.reduceNeg, Nat.reduceAdd, Nat.reduceMul, Nat.add_zero, Nat.mul_zero, Nat.zero_add, am_zb0, am_zb1, ↓Bool.cond_decide, cond_true, cond_false, ↓am_let_s, ↓bI_p, bIJ_s, ↓bV_p, bVJ_s, ↓bL_p, bLJ_s, ly_cf, Bool.and_self, Bool.and_true, t1, t2]
      exact fin _ (by rw [e, if_pos q])
    · cases m with
      | zero =>
        have e : mtF last wf fm wd (nt b) (nt b') 0 k (s b) (s b') = -1 := if_neg q
        by_cases q2 : 60 ≤ k
        · simp (disch := first | assumption | omega) only [am_i_add, am_i_sub, am_i_mul, am_ok_i, am_i_cl, n_lt, n_le, n_eq, n_lt0, n_le0, n_0lt, n_0le, n_eq0, ne_eq, ↓reduceIte, not_true_eq_false, not_false_eq_true, and_true, true_and, and_false, false_and, eq_T, eq_F, lt_T, lt_F, le_T, le_F, qn_T, qn_F, and_F, b01_T, b01_F, e_isIn, Int32.toInt_toInt64, am_i_toInt, am_l_toInt, Int.toNat_natCast, Int.reduceToNat, Int.reduceAdd, Int.reduceSub, Int.reduceMul, Int.reduceNeg, Nat.reduceAdd, Nat.reduceMul, Nat.add_zero, Nat.mul_zero, Nat.zero_add, am_zb0, am_zb1, ↓Bool.cond_decide, cond_true, cond_false, ↓am_let_s, ↓bI_p, bIJ_s, ↓bV_p, bVJ_s, ↓bL_p, bLJ_s, ly_cf, Bool.and_self, Bool.and_true, t1, t2]
          exact fin _ (by rw [e, if_neg q])
        · simp (disch := first | assumption | omega) only [rM hm, ly_csm, ly_cam, ly_cf, ly_kd, ly_ln, ↓Bool.cond_decide, cond_true, cond_false, ↓bI_p, ↓bV_p, ↓bL_p, bIJ_s, bVJ_s, bLJ_s, ↓am_let_s, Nat.blt, Nat.ble, Bool.and_true, Bool.true_and, Bool.and_self, Int.cast_ofNat_Int, am_i_add, am_i_sub, am_i_mul, am_ok_i, am_i_cl, n_lt, n_le, n_eq, n_lt0, n_le0, n_0lt, n_0le, n_eq0, ne_eq, ↓reduceIte, not_true_eq_false, not_false_eq_true, and_true, true_and, and_false, false_and, eq_T, eq_F, lt_T, lt_F, le_T, le_F, qn_T, qn_F, and_F, b01_T, b01_F, e_isIn, Int32.toInt_toInt64, am_i_toInt, am_l_toInt, Int.toNat_natCast, Int.reduceToNat, Int.reduceAdd, Int.reduceSub, Int.reduceMul, Int.reduceNeg, Nat.reduceAdd, Nat.reduceMul, Nat.add_zero, Nat.mul_zero, Nat.zero_add, am_zb0, am_zb1, ↓Bool.cond_decide, cond_true, cond_false, ↓am_let_s, ↓bI_p, bIJ_s, ↓bV_p, bVJ_s, ↓bL_p, bLJ_s, ly_cf, Bool.and_self, Bool.and_true, t1, t2, h0]
          exact fin _ (by rw [e, if_neg q])
      | succ m =>
        have e : mtF last wf fm wd (nt b) (nt b') (m + 1) k (s b) (s b') = mtF last wf fm wd (nt b) (nt b') m (k + 1) (paS last wf fm wd (nt b) (s b)) (paS last wf fm wd (nt b') (s b')) := if_neg q
        simp (disch := first | assumption | omega) only [rM hm, ly_csm, ly_cam, ly_cf, ly_kd, ly_ln, ↓Bool.cond_decide, cond_true, cond_false, ↓bI_p, ↓bV_p, ↓bL_p, bIJ_s, bVJ_s, bLJ_s, ↓am_let_s, Nat.blt, Nat.ble, Bool.and_true, Bool.true_and, Bool.and_self, Int.cast_ofNat_Int, am_i_add, am_i_sub, am_i_mul, am_ok_i, am_i_cl, n_lt, n_le, n_eq, n_lt0, n_le0, n_0lt, n_0le, n_eq0, ne_eq, ↓reduceIte, not_true_eq_false, not_false_eq_true, and_true, true_and, and_false, false_and, eq_T, eq_F, lt_T, lt_F, le_T, le_F, qn_T, qn_F, and_F, b01_T, b01_F, e_isIn, Int32.toInt_toInt64, am_i_toInt, am_l_toInt, Int.toNat_natCast, Int.reduceToNat, Int.reduceAdd, Int.reduceSub, Int.reduceMul, Int.reduceNeg, Nat.reduceAdd, Nat.reduceMul, Nat.add_zero, Nat.mul_zero, Nat.zero_add, am_zb0, am_zb1, ↓Bool.cond_decide, cond_true, cond_false, ↓am_let_s, ↓bI_p, bIJ_s, ↓bV_p, bVJ_s, ↓bL_p, bLJ_s, ly_cf, Bool.and_self, Bool.and_true, t1, t2, h0, e4]
        refine Wp_V (m_thour hm hX.2.2.2.1 hX (by omega) ht ⟨hh, h0, hr⟩) ?_
        rintro _ _ ⟨I', J', rfl, rfl, g1, g2, g3, -⟩
        refine ⟨rfl, ?_⟩
        simp (disch := first | assumption | omega) only [am_i_add, am_i_sub, am_i_mul, am_ok_i, am_i_cl, n_lt, n_le, n_eq, n_lt0, n_le0, n_0lt, n_0le, n_eq0, ne_eq, ↓reduceIte, not_true_eq_false, not_false_eq_true, and_true, true_and, and_false, false_and, eq_T, eq_F, lt_T, lt_F, le_T, le_F, qn_T, qn_F, and_F, b01_T, b01_F, e_isIn, Int32.toInt_toInt64, am_i_toInt, am_l_toInt, Int.toNat_natCast, Int.reduceToNat, Int.reduceAdd, Int.reduceSub, Int.reduceMul, Int.reduceNeg, Nat.reduceAdd, Nat.reduceMul, Nat.add_zero, Nat.mul_zero, Nat.zero_add, am_zb0, am_zb1, ↓Bool.cond_decide, cond_true, cond_false, ↓am_let_s, ↓bI_p, bIJ_s, ↓bV_p, bVJ_s, ↓bL_p, bLJ_s, ly_cf, Bool.and_self, Bool.and_true, am_i_s]
        refine Wp_m (m_mt hm hX hb hb' h58 m (k + 1) (h + 1) _ I' J' (by omega) (by omega) g2 g3) ?_
        rintro _ _ ⟨I2, J2, rfl, rfl, k1, k2⟩
        exact ⟨I2, J2, by rw [e]; rfl, rfl, frJ_t g1 k1, k2⟩
end MEETS
section PMEE
variable {L : Nat} {xs : Nat → Int32}
theorem p_meets (d : Nat) (a1 a2 : Int32) : pr_I (vV restW L xs) (d + 9) 115 230 [(1, .int a1), (2, .int a2)] := by
  refine pW_I ?_
  intro I J R hV
  have hV0 := hV
  obtain ⟨⟨h1, h2, hx, hm, hmu⟩, ht, hr, hf, hp, hs, hd, hw⟩ := hV
  obtain ⟨c, last, nb, nr, nw, wd, sq, K, nt, wf, fm, h4, hc, hB, hN, hF, ⟨h, s, ⟨hh, e66, g0, hbt⟩, ⟨ek, gk, hkp⟩, hKh⟩, hA, hX⟩ := hw
  obtain ⟨b1, b2, b3, b4, b5, b6, b7, b8, i0, m0, i1, m1, i2, m2, i3, m3, i4, m4, i5, m5, mS, mT, hnt, hky, hwf⟩ := hB
  obtain ⟨z, z1, z2, rfl⟩ := i32_z a1
  obtain ⟨y, y1, y2, rfl⟩ := i32_z a2
  have xB := fun d => e_xisBoat d (am_i z) nb c I J R hx h4 hc b3 i1
  have xB' := fun d => e_xisBoat d (am_i y) nb c I J R hx h4 hc b3 i1
  by_cases hq : (0 ≤ z ∧ z < nb) ∧ (0 ≤ y ∧ y < nb) ∧ z ≠ y
  · obtain ⟨b, rfl⟩ : ∃ n : Nat, z = n := ⟨z.toNat, by omega⟩
    obtain ⟨b', rfl⟩ : ∃ n : Nat, y = n := ⟨y.toNat, by omega⟩
    have hb : b < nb := by omega
    have hb' : b' < nb := by omega
    have hl0 : last ≠ 0 := fun e => by have := (b8 e).1; omega
    obtain ⟨n6, n1, n2⟩ := hnt b hb
    obtain ⟨hO, hb1, hb2⟩ := hbt b hb
    obtain ⟨n6', n1', n2'⟩ := hnt b' hb'
    obtain ⟨hO', hb1', hb2'⟩ := hbt b' hb'
    have hXx : cxX c last wd wf fm I := ⟨i0, b2, i4, b6, fun m hm => ⟨(hwf m hm).1, (hwf m hm).2.1⟩, fun f hf => ⟨(hF hl0 f hf).1, (hF hl0 f hf).2.2⟩⟩
    have hXm : cxM last wd nb nt wf fm I := ⟨m0, b2, m4, b6, m1, b3, fun b hb => ⟨(hnt b hb).1, (hnt b hb).2.2⟩, fun m hm => (hwf m hm).2.2, fun f hf => ⟨(hF hl0 f hf).2.1, (hF hl0 f hf).2.2⟩⟩
    have hRM : rwM nb nt last h s I := ⟨hh, g0, fun b hb => ⟨(hbt b hb).1, (hbt b hb).2.2⟩⟩
    have hnt6 : ∀ b, b < nb → nt b ≤ 6 := fun b hb => (hnt b hb).1
    have hR1 : rR R (am_up R 35 1 c) := rR_u (rR_r hmu) hc (Or.inl rfl)
    have hx1 := rR_x hR1 hx
    have hm1 := rR_m hR1 hm
    have h41 : am_up R 35 1 c 3 4 = c := h4
    refine ⟨am_i (mtF last wf fm wd (nt b) (nt b') (min 60 (999 - h)) 0 (s b) (s b')), ?_⟩
    rw [sg_X11_meets_0]
    simp (disch := first | assumption | omega) only [rX hx, ly_csx, ly_cax, ly_cf, ly_kd, ly_ln, ↓Bool.cond_decide, cond_true, cond_false, ↓bI_p, ↓bV_p, ↓bL_p, bIJ_s, bVJ_s, bLJ_s, ↓am_let_s, Nat.blt, Nat.ble, Bool.and_true, Bool.true_and, Bool.and_self, Int.cast_ofNat_Int, am_i_add, am_i_sub, am_i_mul, am_ok_i, am_i_cl, n_lt, n_le, n_eq, n_lt0, n_le0, n_0lt, n_0le, n_eq0, ne_eq, ↓reduceIte, not_true_eq_false, not_false_eq_true, and_true, true_and, and_false, false_and, eq_T, eq_F, lt_T, lt_F, le_T, le_F, qn_T, qn_F, and_F, b01_T, b01_F, e_isIn, Int32.toInt_toInt64, am_i_toInt, am_l_toInt, Int.toNat_natCast, Int.reduceToNat, Int.reduceAdd, Int.reduceSub, Int.reduceMul, Int.reduceNeg, Nat.reduceAdd, Nat.reduceMul, Nat.add_zero, Nat.mul_zero, Nat.zero_add, am_zb0, am_zb1, h4, rC hx hc, xB, xB', b01_t hq.1, b01_t hq.2.1]
    refine Wp_V (x_load (s := s b) hx (Or.inl rfl) hc (by omega) n1 n6 hO.2.2.2.1 hb1) ?_
    rintro _ _ ⟨I1, rfl, rfl, hf1, hH⟩
    refine ⟨rfl, ?_⟩
    have hXx1 : cxX c last wd wf fm I1 := cxX_c hc (fun q k a1 a2 => hf1 q k (hS_f.mpr (by omega))) hXx
    simp (disch := first | assumption | omega) only [am_i_add, am_i_sub, am_i_mul, am_ok_i, am_i_cl, n_lt, n_le, n_eq, n_lt0, n_le0, n_0lt, n_0le, n_eq0, ne_eq, ↓reduceIte, not_true_eq_false, not_false_eq_true, and_true, true_and, and_false, false_and, eq_T, eq_F, lt_T, lt_F, le_T, le_F, qn_T, qn_F, and_F, b01_T, b01_F, e_isIn, Int32.toInt_toInt64, am_i_toInt, am_l_toInt, Int.toNat_natCast, Int.reduceToNat, Int.reduceAdd, Int.reduceSub, Int.reduceMul, Int.reduceNeg, Nat.reduceAdd, Nat.reduceMul, Nat.add_zero, Nat.mul_zero, Nat.zero_add, am_zb0, am_zb1, ↓Bool.cond_decide, cond_true, cond_false, ↓am_let_s, ↓bI_p, bIJ_s, ↓bV_p, bVJ_s, ↓bL_p, bLJ_s, ly_cf, Bool.and_self, Bool.and_true, rX hx1, h41]
    refine Wp_V (x_load (o := 42) (s := s b') (n := nt b') hx1 (Or.inr rfl) hc (by omega) (by rw [hf1 _ _ (hS_f.mpr (by omega))]; exact n1') n6' hO'.2.2.2.1 (by
      obtain ⟨v0, v1, v2, v3, v4, v5⟩ := hb1'
      exact ⟨by rw [hf1 _ _ (hS_f.mpr (by omega))]; exact v0, by rw [hf1 _ _ (hS_f.mpr (by omega))]; exact v1, by rw [hf1 _ _ (hS_f.mpr (by omega))]; exact v2, by rw [hf1 _ _ (hS_f.mpr (by omega))]; exact v3, by rw [hf1 _ _ (hS_f.mpr (by omega))]; exact v4, fun k hk => by rw [hf1 _ _ (hS_f.mpr (by omega))]; exact v5 k hk⟩)) ?_
    rintro _ _ ⟨I2, rfl, rfl, hf2, hH'⟩
    refine ⟨rfl, ?_⟩
    have hR2 : rR R (am_up (am_up R 35 1 c) 42 1 c) := rR_u hR1 hc (Or.inr rfl)
    have hx2 := rR_x hR2 hx
    have hm2 := rR_m hR2 hm
    have h42 : am_up (am_up R 35 1 c) 42 1 c 3 4 = c := h4
    have hXx2 : cxX c last wd wf fm I2 := cxX_c hc (fun q k a1 a2 => hf2 q k (hS_f.mpr (by omega))) hXx1
    have xA : ∀ d, am_E (d + 1) 150 0 [(0, .ref 3), (1, .int (am_i 60))] [] (I2, J, am_up (am_up R 35 1 c) 42 1 c, 138) = some (some (.int (am_i (min 60 (999 - h) : Nat))), (I2, J, am_up (am_up R 35 1 c) 42 1 c, 138)) := fun d => x_ahead (m := 60) hx2 (by omega) hh (by rw [hf2 _ _ (hS_f.mpr (by omega)), hf1 _ _ (hS_f.mpr (by omega))]; exact e66)
    simp (disch := first | assumption | omega) only [am_i_add, am_i_sub, am_i_mul, am_ok_i, am_i_cl, n_lt, n_le, n_eq, n_lt0, n_le0, n_0lt, n_0le, n_eq0, ne_eq, ↓reduceIte, not_true_eq_false, not_false_eq_true, and_true, true_and, and_false, false_and, eq_T, eq_F, lt_T, lt_F, le_T, le_F, qn_T, qn_F, and_F, b01_T, b01_F, e_isIn, Int32.toInt_toInt64, am_i_toInt, am_l_toInt, Int.toNat_natCast, Int.reduceToNat, Int.reduceAdd, Int.reduceSub, Int.reduceMul, Int.reduceNeg, Nat.reduceAdd, Nat.reduceMul, Nat.add_zero, Nat.mul_zero, Nat.zero_add, am_zb0, am_zb1, ↓Bool.cond_decide, cond_true, cond_false, ↓am_let_s, ↓bI_p, bIJ_s, ↓bV_p, bVJ_s, ↓bL_p, bLJ_s, ly_cf, Bool.and_self, Bool.and_true, xA]
    refine Wp_m (x_mt (d := d + 2) (z := min 60 (999 - h)) hx2 h42 hc (by rw [am_up_o (by omega)]; exact am_up_e) am_up_e n6 n6' (by omega) (min 60 (999 - h)) 0 (s b) (s b') I2 (by omega) hXx2 hO hO' (hullR_f hH (fun q k a1 a2 => hf2 q k (hS_f.mpr (by omega)))) hH') ?_
    rintro _ _ ⟨I3, rfl, rfl, hf3⟩
    have g2 : ∀ q k, ¬ (35 ≤ q ∧ q ≤ 48) → I3 q k = I q k := fun q k e => by
      rw [hf3 q k e, hf2 q k (hS_f.mpr (by omega)), hf1 q k (hS_f.mpr (by omega))]
    refine ⟨I3, J, _, rfl, rfl, funext (fun k => g2 1 k (by omega)), rfl, ?_⟩
    have hXm2 : cxM last wd nb nt wf fm I3 := cxM_c (fun q k a1 a2 => g2 q k (by omega)) hXm
    have mB := fun d => e_misBoat d (am_i b) nb I3 J (am_up (am_up R 35 1 c) 42 1 c) hm2 b3 hXm2.2.2.2.2.1
    have mB' := fun d => e_misBoat d (am_i b') nb I3 J (am_up (am_up R 35 1 c) 42 1 c) hm2 b3 hXm2.2.2.2.2.1
    rw [sg_X12_meets_0]
    simp (disch := first | assumption | omega) only [ly_csm, am_i_add, am_i_sub, am_i_mul, am_ok_i, am_i_cl, n_lt, n_le, n_eq, n_lt0, n_le0, n_0lt, n_0le, n_eq0, ne_eq, ↓reduceIte, not_true_eq_false, not_false_eq_true, and_true, true_and, and_false, false_and, eq_T, eq_F, lt_T, lt_F, le_T, le_F, qn_T, qn_F, and_F, b01_T, b01_F, e_isIn, Int32.toInt_toInt64, am_i_toInt, am_l_toInt, Int.toNat_natCast, Int.reduceToNat, Int.reduceAdd, Int.reduceSub, Int.reduceMul, Int.reduceNeg, Nat.reduceAdd, Nat.reduceMul, Nat.add_zero, Nat.mul_zero, Nat.zero_add, am_zb0, am_zb1, ↓Bool.cond_decide, cond_true, cond_false, ↓am_let_s, ↓bI_p, bIJ_s, ↓bV_p, bVJ_s, ↓bL_p, bLJ_s, ly_cf, Bool.and_self, Bool.and_true, rM hm2, mB, mB', b01_t hq.1, b01_t hq.2.1]
    refine Wp_V (m_aside hm2) ?_
    rintro _ _ ⟨I4, rfl, rfl, ht3, e3⟩
    refine ⟨rfl, ?_⟩
    have hr3 : rwM nb nt last h s I4 := rwM_c hRM b3 hnt6 (fun k hk => by rw [e3, g2 _ _ (by omega)])
    refine Wp_m (m_mt (d := d + 1) hm2 hXm2 hb hb' (by rw [g2 _ _ (by omega)]; exact mT) (min 60 (999 - h)) 0 h s I4 J (by omega) (by omega) ht3 hr3) ?_
    rintro _ _ ⟨I5, J5, rfl, rfl, hj5, e5⟩
    refine ⟨I5, J5, _, rfl, rfl, vV_s hV0 (fun q k e => ?_) (fun q k e1 e2 => hj5 q k e1) hR2⟩
    rw [e5 q k e, g2 q k (by unfold sC at e; omega)]
  · refine ⟨am_i (-1), ?_⟩
    have mB := fun d => e_misBoat d (am_i z) nb I J R hm b3 m1
    have mB' := fun d => e_misBoat d (am_i y) nb I J R hm b3 m1
    have cl : am_E (d + 9) 115 0 [(0, .ref 3), (1, .int (am_i z)), (2, .int (am_i y))] [] (I, J, R, 138) = some (some (.int (am_i (-1))), (I, J, R, 138)) := by
      rw [sg_X11_meets_0]
      by_cases h1 : 0 ≤ z ∧ z < nb
      · by_cases h2 : 0 ≤ y ∧ y < nb
        · simp (disch := first | assumption | omega) only [rX hx, ly_csx, ly_cax, ly_cf, ly_kd, ly_ln, ↓Bool.cond_decide, cond_true, cond_false, ↓bI_p, ↓bV_p, ↓bL_p, bIJ_s, bVJ_s, bLJ_s, ↓am_let_s, Nat.blt, Nat.ble, Bool.and_true, Bool.true_and, Bool.and_self, Int.cast_ofNat_Int, am_i_add, am_i_sub, am_i_mul, am_ok_i, am_i_cl, n_lt, n_le, n_eq, n_lt0, n_le0, n_0lt, n_0le, n_eq0, ne_eq, ↓reduceIte, not_true_eq_false, not_false_eq_true, and_true, true_and, and_false, false_and, eq_T, eq_F, lt_T, lt_F, le_T, le_F, qn_T, qn_F, and_F, b01_T, b01_F, e_isIn, Int32.toInt_toInt64, am_i_toInt, am_l_toInt, Int.toNat_natCast, Int.reduceToNat, Int.reduceAdd, Int.reduceSub, Int.reduceMul, Int.reduceNeg, Nat.reduceAdd, Nat.reduceMul, Nat.add_zero, Nat.mul_zero, Nat.zero_add, am_zb0, am_zb1, h4, rC hx hc, xB, xB', b01_t h1, b01_t h2, sg_X11_meets_21]
        · simp (disch := first | assumption | omega) only [rX hx, ly_csx, ly_cax, ly_cf, ly_kd, ly_ln, ↓Bool.cond_decide, cond_true, cond_false, ↓bI_p, ↓bV_p, ↓bL_p, bIJ_s, bVJ_s, bLJ_s, ↓am_let_s, Nat.blt, Nat.ble, Bool.and_true, Bool.true_and, Bool.and_self, Int.cast_ofNat_Int, am_i_add, am_i_sub, am_i_mul, am_ok_i, am_i_cl, n_lt, n_le, n_eq, n_lt0, n_le0, n_0lt, n_0le, n_eq0, ne_eq, ↓reduceIte, not_true_eq_false, not_false_eq_true, and_true, true_and, and_false, false_and, eq_T, eq_F, lt_T, lt_F, le_T, le_F, qn_T, qn_F, and_F, b01_T, b01_F, e_isIn, Int32.toInt_toInt64, am_i_toInt, am_l_toInt, Int.toNat_natCast, Int.reduceToNat, Int.reduceAdd, Int.reduceSub, Int.reduceMul, Int.reduceNeg, Nat.reduceAdd, Nat.reduceMul, Nat.add_zero, Nat.mul_zero, Nat.zero_add, am_zb0, am_zb1, h4, rC hx hc, xB, xB', b01_t h1, b01_f h2, sg_X11_meets_21]
      · simp (disch := first | assumption | omega) only [rX hx, ly_csx, ly_cax, ly_cf, ly_kd, ly_ln, ↓Bool.cond_decide, cond_true, cond_false, ↓bI_p, ↓bV_p, ↓bL_p, bIJ_s, bVJ_s, bLJ_s, ↓am_let_s, Nat.blt, Nat.ble, Bool.and_true, Bool.true_and, Bool.and_self, Int.cast_ofNat_Int, am_i_add, am_i_sub, am_i_mul, am_ok_i, am_i_cl, n_lt, n_le, n_eq, n_lt0, n_le0, n_0lt, n_0le, n_eq0, ne_eq, ↓reduceIte, not_true_eq_false, not_false_eq_true, and_true, true_and, and_false, false_and, eq_T, eq_F, lt_T, lt_F, le_T, le_F, qn_T, qn_F, and_F, b01_T, b01_F, e_isIn, Int32.toInt_toInt64, am_i_toInt, am_l_toInt, Int.toNat_natCast, Int.reduceToNat, Int.reduceAdd, Int.reduceSub, Int.reduceMul, Int.reduceNeg, Nat.reduceAdd, Nat.reduceMul, Nat.add_zero, Nat.mul_zero, Nat.zero_add, am_zb0, am_zb1, h4, rC hx hc, xB, b01_f h1, sg_X11_meets_21]
    refine Wp_e cl (Wp_r ⟨I, J, R, rfl, rfl, rfl, rfl, ?_⟩)
    have cm : am_E (d + 9) 230 0 [(0, .ref 64), (1, .int (am_i z)), (2, .int (am_i y))] [] (I, J, R, 138) = some (some (.int (am_i (-1))), (I, J, R, 138)) := by
      rw [sg_X12_meets_0]
      by_cases h1 : 0 ≤ z ∧ z < nb
      · by_cases h2 : 0 ≤ y ∧ y < nb
        · simp (disch := first | assumption | omega) only [rM hm, ly_csm, ly_cam, ly_cf, ly_kd, ly_ln, ↓Bool.cond_decide, cond_true, cond_false, ↓bI_p, ↓bV_p, ↓bL_p, bIJ_s, bVJ_s, bLJ_s, ↓am_let_s, Nat.blt, Nat.ble, Bool.and_true, Bool.true_and, Bool.and_self, Int.cast_ofNat_Int, am_i_add, am_i_sub, am_i_mul, am_ok_i, am_i_cl, n_lt, n_le, n_eq, n_lt0, n_le0, n_0lt, n_0le, n_eq0, ne_eq, ↓reduceIte, not_true_eq_false, not_false_eq_true, and_true, true_and, and_false, false_and, eq_T, eq_F, lt_T, lt_F, le_T, le_F, qn_T, qn_F, and_F, b01_T, b01_F, e_isIn, Int32.toInt_toInt64, am_i_toInt, am_l_toInt, Int.toNat_natCast, Int.reduceToNat, Int.reduceAdd, Int.reduceSub, Int.reduceMul, Int.reduceNeg, Nat.reduceAdd, Nat.reduceMul, Nat.add_zero, Nat.mul_zero, Nat.zero_add, am_zb0, am_zb1, mB, mB', b01_t h1, b01_t h2, sg_X12_meets_21]
        · simp (disch := first | assumption | omega) only [rM hm, ly_csm, ly_cam, ly_cf, ly_kd, ly_ln, ↓Bool.cond_decide, cond_true, cond_false, ↓bI_p, ↓bV_p, ↓bL_p, bIJ_s, bVJ_s, bLJ_s, ↓am_let_s, Nat.blt, Nat.ble, Bool.and_true, Bool.true_and, Bool.and_self, Int.cast_ofNat_Int, am_i_add, am_i_sub, am_i_mul, am_ok_i, am_i_cl, n_lt, n_le, n_eq, n_lt0, n_le0, n_0lt, n_0le, n_eq0, ne_eq, ↓reduceIte, not_true_eq_false, not_false_eq_true, and_true, true_and, and_false, false_and, eq_T, eq_F, lt_T, lt_F, le_T, le_F, qn_T, qn_F, and_F, b01_T, b01_F, e_isIn, Int32.toInt_toInt64, am_i_toInt, am_l_toInt, Int.toNat_natCast, Int.reduceToNat, Int.reduceAdd, Int.reduceSub, Int.reduceMul, Int.reduceNeg, Nat.reduceAdd, Nat.reduceMul, Nat.add_zero, Nat.mul_zero, Nat.zero_add, am_zb0, am_zb1, mB, mB', b01_t h1, b01_f h2, sg_X12_meets_21]
      · simp (disch := first | assumption | omega) only [rM hm, ly_csm, ly_cam, ly_cf, ly_kd, ly_ln, ↓Bool.cond_decide, cond_true, cond_false, ↓bI_p, ↓bV_p, ↓bL_p, bIJ_s, bVJ_s, bLJ_s, ↓am_let_s, Nat.blt, Nat.ble, Bool.and_true, Bool.true_and, Bool.and_self, Int.cast_ofNat_Int, am_i_add, am_i_sub, am_i_mul, am_ok_i, am_i_cl, n_lt, n_le, n_eq, n_lt0, n_le0, n_0lt, n_0le, n_eq0, ne_eq, ↓reduceIte, not_true_eq_false, not_false_eq_true, and_true, true_and, and_false, false_and, eq_T, eq_F, lt_T, lt_F, le_T, le_F, qn_T, qn_F, and_F, b01_T, b01_F, e_isIn, Int32.toInt_toInt64, am_i_toInt, am_l_toInt, Int.toNat_natCast, Int.reduceToNat, Int.reduceAdd, Int.reduceSub, Int.reduceMul, Int.reduceNeg, Nat.reduceAdd, Nat.reduceMul, Nat.add_zero, Nat.mul_zero, Nat.zero_add, am_zb0, am_zb1, mB, b01_f h1, sg_X12_meets_21]
    exact Wp_e cm (Wp_r ⟨I, J, R, rfl, rfl, hV0⟩)
end PMEE
