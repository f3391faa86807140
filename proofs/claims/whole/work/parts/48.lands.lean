/-! ===== lands ===== -/
def laF (last : Nat) (wf : Nat → Nat) (fm : Nat → List tok) (u n : Nat) : Nat → Nat → bt → Int
  | 0, k, x => if x.mi = last then (k : Int) else -1
  | m + 1, k, x => if x.mi = last then (k : Int) else laF last wf fm u n m (k + 1) (paS last wf fm u n x)
section LANDS
variable {d : Nat} {I : tI} {J : tJ} {R : tR} {o c last wd nb n b : Nat} {nt wf : Nat → Nat} {fm : Nat → List tok} {h u : Nat}
theorem laF_n : ∀ (m k : Nat) {x : bt}, ¬ ouS last n x → x.mi ≠ last → laF last wf fm u n m k x = -1
  | 0, k, x, _, h2 => if_neg h2
  | m + 1, k, x, h1, h2 => by
    have e : paS last wf fm u n x = x := by unfold paS; rw [if_neg h1]
    show (if x.mi = last then (k : Int) else laF last wf fm u n m (k + 1) (paS last wf fm u n x)) = -1
    rw [if_neg h2, e]
    exact laF_n m (k + 1) h1 h2
theorem laF_b : ∀ (m k : Nat) (x : bt), laF last wf fm u n m k x = -1 ∨ ((k : Int) ≤ laF last wf fm u n m k x ∧ laF last wf fm u n m k x ≤ k + m)
  | 0, k, x => by
    show (if x.mi = last then (k : Int) else -1) = -1 ∨ _
    by_cases q : x.mi = last
    · right
      show (k : Int) ≤ (if x.mi = last then (k : Int) else -1) ∧ (if x.mi = last then (k : Int) else -1) ≤ _
      rw [if_pos q]
      omega
    · left
      rw [if_neg q]
  | m + 1, k, x => by
    by_cases q : x.mi = last
    · right
      have e : laF last wf fm u n (m + 1) k x = k := if_pos q
      rw [e]
      omega
    · have e : laF last wf fm u n (m + 1) k x = laF last wf fm u n m (k + 1) (paS last wf fm u n x) := if_neg q
      rw [e]
      rcases laF_b m (k + 1) (paS last wf fm u n x) with h | h
      · exact Or.inl h
      · right; omega
theorem x_lb {z : Nat} (hx : st_Rx R) (ho : o = 35 ∨ o = 42) (hc : c = 10 ∨ c = 20) (hR : R o 1 = c) (hn : n ≤ 6) (hz : z ≤ 60) : ∀ (m k : Nat) (x : bt) (I : tI), k + m = z → cxX c last wd wf fm I → bOK last n x → hullR o I n x → Wp (fun r M => ∃ I', r = some (.int (am_i (laF last wf fm wd n m k x))) ∧ M = (I', J, R, 138) ∧ fr (hS o) I I') (am_E (d + 7) 46 2 [(0, .ref o), (1, .int (am_i z)), (2, .int (am_i k))] [] (I, J, R, 138))
  | m, k, x, I, hk, hX, hO, hH => by
    have hl := hX.2.1
    have xL := fun d => x_landed (d := d) (J := J) (I := I) (m := x.mi) hx ho hc hR (by have := hO.1; omega) hl hH.1 hX.1
    rw [sg_X5_landsBehind_2]
    by_cases q : x.mi = last
    · have e : laF last wf fm wd n m k x = k := by cases m <;> exact if_pos q
      simp (disch := first | assumption | omega) only [am_i_add, am_i_sub, am_i_mul, am_ok_i, am_i_cl, n_lt, n_le, n_eq, n_lt0, n_le0, n_0lt, n_0le, n_eq0, ne_eq, ↓reduceIte, not_true_eq_false, not_false_eq_true, and_true, true_and, and_false, false_and, eq_T, eq_F, lt_T, lt_F, le_T, le_F, qn_T, qn_F, and_F, b01_T, b01_F, e_isIn, Int32.toInt_toInt64, am_i_toInt, am_l_toInt, Int.toNat_natCast, Int.reduceToNat, Int.reduceAdd, Int.reduceSub, Int.reduceMul, Int.reduceNeg, Nat.reduceAdd, Nat.reduceMul, Nat.add_zero, Nat.mul_zero, Nat.zero_add, am_zb0, am_zb1, ↓Bool.cond_decide, cond_true, cond_false, ↓am_let_s, ↓bI_p, bIJ_s, ↓bV_p, bVJ_s, ↓bL_p, bLJ_s, ly_cf, Bool.and_self, Bool.and_true, rH hx ho, xL, b01_t q]
      exact Wp_r ⟨I, by rw [e], rfl, fr_r _ _⟩
    · cases m with
      | zero =>
        have e : laF last wf fm wd n 0 k x = -1 := if_neg q
        simp (disch := first | assumption | omega) only [am_i_add, am_i_sub, am_i_mul, am_ok_i, am_i_cl, n_lt, n_le, n_eq, n_lt0, n_le0, n_0lt, n_0le, n_eq0, ne_eq, ↓reduceIte, not_true_eq_false, not_false_eq_true, and_true, true_and, and_false, false_and, eq_T, eq_F, lt_T, lt_F, le_T, le_F, qn_T, qn_F, and_F, b01_T, b01_F, e_isIn, Int32.toInt_toInt64, am_i_toInt, am_l_toInt, Int.toNat_natCast, Int.reduceToNat, Int.reduceAdd, Int.reduceSub, Int.reduceMul, Int.reduceNeg, Nat.reduceAdd, Nat.reduceMul, Nat.add_zero, Nat.mul_zero, Nat.zero_add, am_zb0, am_zb1, ↓Bool.cond_decide, cond_true, cond_false, ↓am_let_s, ↓bI_p, bIJ_s, ↓bV_p, bVJ_s, ↓bL_p, bLJ_s, ly_cf, Bool.and_self, Bool.and_true, rH hx ho, xL, b01_f q, sg_X5_landsBehind_37]
        exact Wp_r ⟨I, by rw [e], rfl, fr_r _ _⟩
      | succ m =>
        have e : laF last wf fm wd n (m + 1) k x = laF last wf fm wd n m (k + 1) (paS last wf fm wd n x) := if_neg q
        have i4 := hX.2.2.1
        simp (disch := first | assumption | omega) only [am_i_add, am_i_sub, am_i_mul, am_ok_i, am_i_cl, n_lt, n_le, n_eq, n_lt0, n_le0, n_0lt, n_0le, n_eq0, ne_eq, ↓reduceIte, not_true_eq_false, not_false_eq_true, and_true, true_and, and_false, false_and, eq_T, eq_F, lt_T, lt_F, le_T, le_F, qn_T, qn_F, and_F, b01_T, b01_F, e_isIn, Int32.toInt_toInt64, am_i_toInt, am_l_toInt, Int.toNat_natCast, Int.reduceToNat, Int.reduceAdd, Int.reduceSub, Int.reduceMul, Int.reduceNeg, Nat.reduceAdd, Nat.reduceMul, Nat.add_zero, Nat.mul_zero, Nat.zero_add, am_zb0, am_zb1, ↓Bool.cond_decide, cond_true, cond_false, ↓am_let_s, ↓bI_p, bIJ_s, ↓bV_p, bVJ_s, ↓bL_p, bLJ_s, ly_cf, Bool.and_self, Bool.and_true, rC hx hc, rH hx ho, hR, xL, b01_f q, i4]
        refine Wp_I (x_pass hx ho hc hR hX hn hO hH hX.2.2.2.1) ?_
        rintro _ _ ⟨I', rfl, rfl, hf, hH'⟩
        refine ⟨_, rfl, ?_⟩
        by_cases qo : ouS last n x
        · have hno : noS last n x = x.sc x.pl := if_pos qo
          have hsc := hO.2.2.2.2.2.2 x.pl (by have := hO.2.2.2.2.1; have := qo.1; omega)
          simp (disch := first | assumption | omega) only [am_i_add, am_i_sub, am_i_mul, am_ok_i, am_i_cl, n_lt, n_le, n_eq, n_lt0, n_le0, n_0lt, n_0le, n_eq0, ne_eq, ↓reduceIte, not_true_eq_false, not_false_eq_true, and_true, true_and, and_false, false_and, eq_T, eq_F, lt_T, lt_F, le_T, le_F, qn_T, qn_F, and_F, b01_T, b01_F, e_isIn, Int32.toInt_toInt64, am_i_toInt, am_l_toInt, Int.toNat_natCast, Int.reduceToNat, Int.reduceAdd, Int.reduceSub, Int.reduceMul, Int.reduceNeg, Nat.reduceAdd, Nat.reduceMul, Nat.add_zero, Nat.mul_zero, Nat.zero_add, am_zb0, am_zb1, ↓Bool.cond_decide, cond_true, cond_false, ↓am_let_s, ↓bI_p, bIJ_s, ↓bV_p, bVJ_s, ↓bL_p, bLJ_s, ly_cf, Bool.and_self, Bool.and_true, hno, am_i_s]
          rw [e]
          refine Wp_m (x_lb hx ho hc hR hn hz m (k + 1) _ I' (by omega) (cxX_c hc (fun q k a1 a2 => hf q k (hS_f.mpr (by omega))) hX) (paS_ok hO) hH') ?_
          rintro _ _ ⟨I2, rfl, rfl, hf2⟩
          exact ⟨I2, rfl, rfl, fr_t hf hf2⟩
        · have hno : noS last n x = 8 := if_neg qo
          have e8 : am_i ((8 : Nat) : Int) = am_i 8 := rfl
          simp (disch := first | assumption | omega) only [am_i_add, am_i_sub, am_i_mul, am_ok_i, am_i_cl, n_lt, n_le, n_eq, n_lt0, n_le0, n_0lt, n_0le, n_eq0, ne_eq, ↓reduceIte, not_true_eq_false, not_false_eq_true, and_true, true_and, and_false, false_and, eq_T, eq_F, lt_T, lt_F, le_T, le_F, qn_T, qn_F, and_F, b01_T, b01_F, e_isIn, Int32.toInt_toInt64, am_i_toInt, am_l_toInt, Int.toNat_natCast, Int.reduceToNat, Int.reduceAdd, Int.reduceSub, Int.reduceMul, Int.reduceNeg, Nat.reduceAdd, Nat.reduceMul, Nat.add_zero, Nat.mul_zero, Nat.zero_add, am_zb0, am_zb1, ↓Bool.cond_decide, cond_true, cond_false, ↓am_let_s, ↓bI_p, bIJ_s, ↓bV_p, bVJ_s, ↓bL_p, bLJ_s, ly_cf, Bool.and_self, Bool.and_true, hno, e8, sg_X5_landsBehind_37]
          exact Wp_r ⟨I', by rw [laF_n _ _ qo q], rfl, hf⟩
theorem m_li {I0 : tI} {z : Nat} (hm : st_Rm R) (hX : cxM last wd nb nt wf fm I0) (hb : b < nb) (hz : z ≤ 60) : ∀ (m k h : Nat) (s : Nat → bt) (I : tI) (J : tJ), m = min (z - k) (999 - h) → k ≤ z → thM I0 I → rwM nb nt last h s I → Wp (fun r M => ∃ I' J', r = some (.int (am_i (laF last wf fm wd (nt b) m k (s b)))) ∧ M = (I', J', R, 138) ∧ frJ J J' ∧ thM I0 I' ∧ ∀ k, I' 103 k = I0 103 k) (am_E (d + 8) 227 2 [(0, .ref 64), (1, .int (am_i b)), (2, .int (am_i z)), (3, .int (am_i k))] [] (I, J, R, 138))
  | m, k, h, s, I, J, hk, hkz, ht, hB => by
    have hl := hX.2.1
    have h6 := hX.2.2.2.2.2.1
    obtain ⟨hh, h0, hr⟩ := hB
    obtain ⟨hO, hbx⟩ := hr b hb
    have e93 : I 93 3 = am_i last := by rw [ht.2.2.2 _ _ (by unfold sC; omega) (by omega) (by omega)]; exact hX.1
    have e4 : I 93 4 = am_i wd := by rw [ht.2.2.2 _ _ (by unfold sC; omega) (by omega) (by omega)]; exact hX.2.2.1
    have mL := fun d => e_mLanded (d := d) (I := I) (J := J) (b := (b : Int)) (v := (s b).mi) (w := last) hm (by omega) (by omega) (by rw [Int.toNat_natCast]; exact (bX_i.mp hbx).1) e93 (by have := hO.1; omega) hl
    have fin : ∀ (p : Prop) [Decidable p] (v : Int), p = ((s b).mi = last) → v = (if (s b).mi = last then (k : Int) else -1) → Wp (fun r M => ∃ I' J', r = some (.int (am_i v)) ∧ M = (I', J', R, 138) ∧ frJ J J' ∧ thM I0 I' ∧ ∀ k, I' 103 k = I0 103 k) (am_E (d + 8) 227 43 [(0, .ref 64), (1, .int (am_i b)), (3, .int (am_i k))] [] (I, J, R, 138)) := by
      intro p _ v _ hv
      rw [sg_X12_landsIn_43]
      by_cases q : (s b).mi = last
      · rw [if_pos q] at hv
        simp (disch := first | assumption | omega) only [am_i_add, am_i_sub, am_i_mul, am_ok_i, am_i_cl, n_lt, n_le, n_eq, n_lt0, n_le0, n_0lt, n_0le, n_eq0, ne_eq, ↓reduceIte, not_true_eq_false, not_false_eq_true, and_true, true_and, and_false, false_and, eq_T, eq_F, lt_T, lt_F, le_T, le_F, qn_T, qn_F, and_F, b01_T, b01_F, e_isIn, Int32.toInt_toInt64, am_i_toInt, am_l_toInt, Int.toNat_natCast, Int.reduceToNat, Int.reduceAdd, Int.reduceSub, Int.reduceMul, Int.reduceNeg, Nat.reduceAdd, Nat.reduceMul, Nat.add_zero, Nat.mul_zero, Nat.zero_add, am_zb0, am_zb1, ↓Bool.cond_decide, cond_true, cond_false, ↓am_let_s, ↓bI_p, bIJ_s, ↓bV_p, bVJ_s, ↓bL_p, bLJ_s, ly_cf, Bool.and_self, Bool.and_true, mL, b01_t q]
        refine Wp_V (m_anew hm ht) ?_
        rintro _ _ ⟨I', rfl, rfl, t1, t2, -⟩
        exact ⟨rfl, Wp_r ⟨I', J, by rw [hv], rfl, frJ_r _, t1, t2⟩⟩
      · rw [if_neg q] at hv
        simp (disch := first | assumption | omega) only [am_i_add, am_i_sub, am_i_mul, am_ok_i, am_i_cl, n_lt, n_le, n_eq, n_lt0, n_le0, n_0lt, n_0le, n_eq0, ne_eq, ↓reduceIte, not_true_eq_false, not_false_eq_true, and_true, true_and, and_false, false_and, eq_T, eq_F, lt_T, lt_F, le_T, le_F, qn_T, qn_F, and_F, b01_T, b01_F, e_isIn, Int32.toInt_toInt64, am_i_toInt, am_l_toInt, Int.toNat_natCast, Int.reduceToNat, Int.reduceAdd, Int.reduceSub, Int.reduceMul, Int.reduceNeg, Nat.reduceAdd, Nat.reduceMul, Nat.add_zero, Nat.mul_zero, Nat.zero_add, am_zb0, am_zb1, ↓Bool.cond_decide, cond_true, cond_false, ↓am_let_s, ↓bI_p, bIJ_s, ↓bV_p, bVJ_s, ↓bL_p, bLJ_s, ly_cf, Bool.and_self, Bool.and_true, mL, b01_f q]
        refine Wp_V (m_anew hm ht) ?_
        rintro _ _ ⟨I', rfl, rfl, t1, t2, -⟩
        exact ⟨rfl, Wp_r ⟨I', J, by rw [hv], rfl, frJ_r _, t1, t2⟩⟩
    rw [sg_X12_landsIn_2]
    by_cases q : (s b).mi = last
    · have e : laF last wf fm wd (nt b) m k (s b) = k := by cases m <;> exact if_pos q
      simp (disch := first | assumption | omega) only [am_i_add, am_i_sub, am_i_mul, am_ok_i, am_i_cl, n_lt, n_le, n_eq, n_lt0, n_le0, n_0lt, n_0le, n_eq0, ne_eq, ↓reduceIte, not_true_eq_false, not_false_eq_true, and_true, true_and, and_false, false_and, eq_T, eq_F, lt_T, lt_F, le_T, le_F, qn_T, qn_F, and_F, b01_T, b01_F, e_isIn, Int32.toInt_toInt64, am_i_toInt, am_l_toInt, Int.toNat_natCast, Int.reduceToNat, Int.reduceAdd, Int.reduceSub, Int.reduceMul, Int.reduceNeg, Nat.reduceAdd, Nat.reduceMul, Nat.add_zero, Nat.mul_zero, Nat.zero_add, am_zb0, am_zb1, ↓Bool.cond_decide, cond_true, cond_false, ↓am_let_s, ↓bI_p, bIJ_s, ↓bV_p, bVJ_s, ↓bL_p, bLJ_s, ly_cf, Bool.and_self, Bool.and_true, mL, b01_t q]
      exact fin _ _ rfl (by rw [e, if_pos q])
    · cases m with
      | zero =>
        have e : laF last wf fm wd (nt b) 0 k (s b) = -1 := if_neg q
        by_cases q2 : z ≤ k
        · simp (disch := first | assumption | omega) only [am_i_add, am_i_sub, am_i_mul, am_ok_i, am_i_cl, n_lt, n_le, n_eq, n_lt0, n_le0, n_0lt, n_0le, n_eq0, ne_eq, ↓reduceIte, not_true_eq_false, not_false_eq_true, and_true, true_and, and_false, false_and, eq_T, eq_F, lt_T, lt_F, le_T, le_F, qn_T, qn_F, and_F, b01_T, b01_F, e_isIn, Int32.toInt_toInt64, am_i_toInt, am_l_toInt, Int.toNat_natCast, Int.reduceToNat, Int.reduceAdd, Int.reduceSub, Int.reduceMul, Int.reduceNeg, Nat.reduceAdd, Nat.reduceMul, Nat.add_zero, Nat.mul_zero, Nat.zero_add, am_zb0, am_zb1, ↓Bool.cond_decide, cond_true, cond_false, ↓am_let_s, ↓bI_p, bIJ_s, ↓bV_p, bVJ_s, ↓bL_p, bLJ_s, ly_cf, Bool.and_self, Bool.and_true, mL, b01_f q]
          exact fin _ _ rfl (by rw [e, if_neg q])
        · simp (disch := first | assumption | omega) only [rM hm, ly_csm, ly_cam, ly_cf, ly_kd, ly_ln, ↓Bool.cond_decide, cond_true, cond_false, ↓bI_p, ↓bV_p, ↓bL_p, bIJ_s, bVJ_s, bLJ_s, ↓am_let_s, Nat.blt, Nat.ble, Bool.and_true, Bool.true_and, Bool.and_self, Int.cast_ofNat_Int, am_i_add, am_i_sub, am_i_mul, am_ok_i, am_i_cl, n_lt, n_le, n_eq, n_lt0, n_le0, n_0lt, n_0le, n_eq0, ne_eq, ↓reduceIte, not_true_eq_false, not_false_eq_true, and_true, true_and, and_false, false_and, eq_T, eq_F, lt_T, lt_F, le_T, le_F, qn_T, qn_F, and_F, b01_T, b01_F, e_isIn, Int32.toInt_toInt64, am_i_toInt, am_l_toInt, Int.toNat_natCast, Int.reduceToNat, Int.reduceAdd, Int.reduceSub, Int.reduceMul, Int.reduceNeg, Nat.reduceAdd, Nat.reduceMul, Nat.add_zero, Nat.mul_zero, Nat.zero_add, am_zb0, am_zb1, ↓Bool.cond_decide, cond_true, cond_false, ↓am_let_s, ↓bI_p, bIJ_s, ↓bV_p, bVJ_s, ↓bL_p, bLJ_s, ly_cf, Bool.and_self, Bool.and_true, mL, b01_f q, h0]
          exact fin _ _ rfl (by rw [e, if_neg q])
      | succ m =>
        have e : laF last wf fm wd (nt b) (m + 1) k (s b) = laF last wf fm wd (nt b) m (k + 1) (paS last wf fm wd (nt b) (s b)) := if_neg q
        simp (disch := first | assumption | omega) only [rM hm, ly_csm, ly_cam, ly_cf, ly_kd, ly_ln, ↓Bool.cond_decide, cond_true, cond_false, ↓bI_p, ↓bV_p, ↓bL_p, bIJ_s, bVJ_s, bLJ_s, ↓am_let_s, Nat.blt, Nat.ble, Bool.and_true, Bool.true_and, Bool.and_self, Int.cast_ofNat_Int, am_i_add, am_i_sub, am_i_mul, am_ok_i, am_i_cl, n_lt, n_le, n_eq, n_lt0, n_le0, n_0lt, n_0le, n_eq0, ne_eq, ↓reduceIte, not_true_eq_false, not_false_eq_true, and_true, true_and, and_false, false_and, eq_T, eq_F, lt_T, lt_F, le_T, le_F, qn_T, qn_F, and_F, b01_T, b01_F, e_isIn, Int32.toInt_toInt64, am_i_toInt, am_l_toInt, Int.toNat_natCast, Int.reduceToNat, Int.reduceAdd, Int.reduceSub, Int.reduceMul, Int.reduceNeg, Nat.reduceAdd, Nat.reduceMul, Nat.add_zero, Nat.mul_zero, Nat.zero_add, am_zb0, am_zb1, ↓Bool.cond_decide, cond_true, cond_false, ↓am_let_s, ↓bI_p, bIJ_s, ↓bV_p, bVJ_s, ↓bL_p, bLJ_s, ly_cf, Bool.and_self, Bool.and_true, mL, b01_f q, h0, e4]
        refine Wp_V (m_thour hm hX.2.2.2.1 hX (by omega) ht ⟨hh, h0, hr⟩) ?_
        rintro _ _ ⟨I', J', rfl, rfl, g1, g2, g3, -⟩
        refine ⟨rfl, ?_⟩
        simp (disch := first | assumption | omega) only [am_i_add, am_i_sub, am_i_mul, am_ok_i, am_i_cl, n_lt, n_le, n_eq, n_lt0, n_le0, n_0lt, n_0le, n_eq0, ne_eq, ↓reduceIte, not_true_eq_false, not_false_eq_true, and_true, true_and, and_false, false_and, eq_T, eq_F, lt_T, lt_F, le_T, le_F, qn_T, qn_F, and_F, b01_T, b01_F, e_isIn, Int32.toInt_toInt64, am_i_toInt, am_l_toInt, Int.toNat_natCast, Int.reduceToNat, Int.reduceAdd, Int.reduceSub, Int.reduceMul, Int.reduceNeg, Nat.reduceAdd, Nat.reduceMul, Nat.add_zero, Nat.mul_zero, Nat.zero_add, am_zb0, am_zb1, ↓Bool.cond_decide, cond_true, cond_false, ↓am_let_s, ↓bI_p, bIJ_s, ↓bV_p, bVJ_s, ↓bL_p, bLJ_s, ly_cf, Bool.and_self, Bool.and_true, am_i_s]
        refine Wp_m (m_li hm hX hb hz m (k + 1) (h + 1) _ I' J' (by omega) (by omega) g2 g3) ?_
        rintro _ _ ⟨I2, J2, rfl, rfl, k1, k2, k3⟩
        exact ⟨I2, J2, by rw [e]; rfl, rfl, frJ_t g1 k1, k2, k3⟩
end LANDS
section PLAN
variable {L : Nat} {xs : Nat → Int32}
theorem p_lands (d : Nat) (a1 : Int32) : pr_I (vV restW L xs) (d + 9) 113 228 [(1, .int a1)] := by
  refine pW_I ?_
  intro I J R hV
  have hV0 := hV
  obtain ⟨⟨h1, h2, hx, hm, hmu⟩, ht, hr, hf, hp, hs, hd, hw⟩ := hV
  obtain ⟨c, last, nb, nr, nw, wd, sq, K, nt, wf, fm, h4, hc, hB, hN, hF, ⟨h, s, ⟨hh, e66, g0, hbt⟩, ⟨ek, gk, hkp⟩, hKh⟩, hA, hX⟩ := hw
  obtain ⟨b1, b2, b3, b4, b5, b6, b7, b8, i0, m0, i1, m1, i2, m2, i3, m3, i4, m4, i5, m5, mS, mT, hnt, hky, hwf⟩ := hB
  obtain ⟨z, z1, z2, rfl⟩ := i32_z a1
  have xB := fun d => e_xisBoat d (am_i z) nb c I J R hx h4 hc b3 i1
  by_cases hq : 0 ≤ z ∧ z < nb
  · obtain ⟨b, rfl⟩ : ∃ n : Nat, z = n := ⟨z.toNat, by omega⟩
    have hb : b < nb := by omega
    have hl0 : last ≠ 0 := fun e => by have := (b8 e).1; omega
    obtain ⟨n6, n1, n2⟩ := hnt b hb
    obtain ⟨hO, hb1, hb2⟩ := hbt b hb
    have hXx : cxX c last wd wf fm I := ⟨i0, b2, i4, b6, fun m hm => ⟨(hwf m hm).1, (hwf m hm).2.1⟩, fun f hf => ⟨(hF hl0 f hf).1, (hF hl0 f hf).2.2⟩⟩
    have hXm : cxM last wd nb nt wf fm I := ⟨m0, b2, m4, b6, m1, b3, fun b hb => ⟨(hnt b hb).1, (hnt b hb).2.2⟩, fun m hm => (hwf m hm).2.2, fun f hf => ⟨(hF hl0 f hf).2.1, (hF hl0 f hf).2.2⟩⟩
    have hRM : rwM nb nt last h s I := ⟨hh, g0, fun b hb => ⟨(hbt b hb).1, (hbt b hb).2.2⟩⟩
    have hnt6 : ∀ b, b < nb → nt b ≤ 6 := fun b hb => (hnt b hb).1
    have hR1 : rR R (am_up R 35 1 c) := rR_u (rR_r hmu) hc (Or.inl rfl)
    have hx1 := rR_x hR1 hx
    have hm1 := rR_m hR1 hm
    have h41 : am_up R 35 1 c 3 4 = c := h4
    refine ⟨am_i (laF last wf fm wd (nt b) (min 60 (999 - h)) 0 (s b)), ?_⟩
    rw [sg_X11_lands_0]
    simp (disch := first | assumption | omega) only [rX hx, ly_csx, ly_cax, ly_cf, ly_kd, ly_ln, ↓Bool.cond_decide, cond_true, cond_false, ↓bI_p, ↓bV_p, ↓bL_p, bIJ_s, bVJ_s, bLJ_s, ↓am_let_s, Nat.blt, Nat.ble, Bool.and_true, Bool.true_and, Bool.and_self, Int.cast_ofNat_Int, am_i_add, am_i_sub, am_i_mul, am_ok_i, am_i_cl, n_lt, n_le, n_eq, n_lt0, n_le0, n_0lt, n_0le, n_eq0, ne_eq, ↓reduceIte, not_true_eq_false, not_false_eq_true, and_true, true_and, and_false, false_and, eq_T, eq_F, lt_T, lt_F, le_T, le_F, qn_T, qn_F, and_F, b01_T, b01_F, e_isIn, Int32.toInt_toInt64, am_i_toInt, am_l_toInt, Int.toNat_natCast, Int.reduceToNat, Int.reduceAdd, Int.reduceSub, Int.reduceMul, Int.reduceNeg, Nat.reduceAdd, Nat.reduceMul, Nat.add_zero, Nat.mul_zero, Nat.zero_add, am_zb0, am_zb1, h4, rC hx hc, xB, b01_t]
    refine Wp_V (x_load (s := s b) hx (Or.inl rfl) hc (by omega) n1 n6 hO.2.2.2.1 hb1) ?_
    rintro _ _ ⟨I1, rfl, rfl, hf1, hH⟩
    refine ⟨rfl, ?_⟩
    have hXx1 : cxX c last wd wf fm I1 := cxX_c hc (fun q k a1 a2 => hf1 q k (hS_f.mpr (by omega))) hXx
    have xA : ∀ d, am_E (d + 1) 150 0 [(0, .ref 3), (1, .int (am_i 60))] [] (I1, J, am_up R 35 1 c, 138) = some (some (.int (am_i (min 60 (999 - h) : Nat))), (I1, J, am_up R 35 1 c, 138)) := fun d => x_ahead (m := 60) hx1 (by omega) hh (by rw [hf1 _ _ (hS_f.mpr (by omega))]; exact e66)
    simp (disch := first | assumption | omega) only [am_i_add, am_i_sub, am_i_mul, am_ok_i, am_i_cl, n_lt, n_le, n_eq, n_lt0, n_le0, n_0lt, n_0le, n_eq0, ne_eq, ↓reduceIte, not_true_eq_false, not_false_eq_true, and_true, true_and, and_false, false_and, eq_T, eq_F, lt_T, lt_F, le_T, le_F, qn_T, qn_F, and_F, b01_T, b01_F, e_isIn, Int32.toInt_toInt64, am_i_toInt, am_l_toInt, Int.toNat_natCast, Int.reduceToNat, Int.reduceAdd, Int.reduceSub, Int.reduceMul, Int.reduceNeg, Nat.reduceAdd, Nat.reduceMul, Nat.add_zero, Nat.mul_zero, Nat.zero_add, am_zb0, am_zb1, ↓Bool.cond_decide, cond_true, cond_false, ↓am_let_s, ↓bI_p, bIJ_s, ↓bV_p, bVJ_s, ↓bL_p, bLJ_s, ly_cf, Bool.and_self, Bool.and_true, rX hx1, xA]
    refine Wp_I (Wp_e (sg_X5_landsBehind_0 _ _ _ _) (x_lb (d := d + 1) (z := min 60 (999 - h)) hx1 (Or.inl rfl) hc am_up_e n6 (by omega) (min 60 (999 - h)) 0 (s b) I1 (by omega) hXx1 hO hH)) ?_
    rintro _ _ ⟨I2, rfl, rfl, hf2⟩
    refine ⟨_, rfl, ?_⟩
    have g2 : ∀ q k, ¬ (35 ≤ q ∧ q ≤ 41) → I2 q k = I q k := fun q k e => by
      rw [hf2 q k (hS_f.mpr (by omega)), hf1 q k (hS_f.mpr (by omega))]
    refine Wp_r ⟨I2, J, _, rfl, rfl, funext (fun k => g2 1 k (by omega)), rfl, ?_⟩
    have hXm2 : cxM last wd nb nt wf fm I2 := cxM_c (fun q k a1 a2 => g2 q k (by omega)) hXm
    have mB := fun d => e_misBoat d (am_i b) nb I2 J (am_up R 35 1 c) hm1 b3 hXm2.2.2.2.2.1
    rw [sg_X12_lands_0]
    simp (disch := first | assumption | omega) only [ly_csm, am_i_add, am_i_sub, am_i_mul, am_ok_i, am_i_cl, n_lt, n_le, n_eq, n_lt0, n_le0, n_0lt, n_0le, n_eq0, ne_eq, ↓reduceIte, not_true_eq_false, not_false_eq_true, and_true, true_and, and_false, false_and, eq_T, eq_F, lt_T, lt_F, le_T, le_F, qn_T, qn_F, and_F, b01_T, b01_F, e_isIn, Int32.toInt_toInt64, am_i_toInt, am_l_toInt, Int.toNat_natCast, Int.reduceToNat, Int.reduceAdd, Int.reduceSub, Int.reduceMul, Int.reduceNeg, Nat.reduceAdd, Nat.reduceMul, Nat.add_zero, Nat.mul_zero, Nat.zero_add, am_zb0, am_zb1, ↓Bool.cond_decide, cond_true, cond_false, ↓am_let_s, ↓bI_p, bIJ_s, ↓bV_p, bVJ_s, ↓bL_p, bLJ_s, ly_cf, Bool.and_self, Bool.and_true, rM hm1, mB, b01_t hq]
    refine Wp_V (m_aside hm1) ?_
    rintro _ _ ⟨I3, rfl, rfl, ht3, e3⟩
    refine ⟨rfl, ?_⟩
    simp (disch := first | assumption | omega) only [am_i_add, am_i_sub, am_i_mul, am_ok_i, am_i_cl, n_lt, n_le, n_eq, n_lt0, n_le0, n_0lt, n_0le, n_eq0, ne_eq, ↓reduceIte, not_true_eq_false, not_false_eq_true, and_true, true_and, and_false, false_and, eq_T, eq_F, lt_T, lt_F, le_T, le_F, qn_T, qn_F, and_F, b01_T, b01_F, e_isIn, Int32.toInt_toInt64, am_i_toInt, am_l_toInt, Int.toNat_natCast, Int.reduceToNat, Int.reduceAdd, Int.reduceSub, Int.reduceMul, Int.reduceNeg, Nat.reduceAdd, Nat.reduceMul, Nat.add_zero, Nat.mul_zero, Nat.zero_add, am_zb0, am_zb1, ↓Bool.cond_decide, cond_true, cond_false, ↓am_let_s, ↓bI_p, bIJ_s, ↓bV_p, bVJ_s, ↓bL_p, bLJ_s, ly_cf, Bool.and_self, Bool.and_true]
    have hr3 : rwM nb nt last h s I3 := rwM_c hRM b3 hnt6 (fun k hk => by rw [e3, g2 _ _ (by omega)])
    refine Wp_I (Wp_e (sg_X12_landsIn_0 _ _ _ _ _) (m_li (d := d) (z := 60) hm1 hXm2 hb (by omega) (min 60 (999 - h)) 0 h s I3 J (by omega) (by omega) ht3 hr3)) ?_
    rintro _ _ ⟨I4, J4, rfl, rfl, hj4, ht4, -⟩
    refine ⟨_, rfl, ?_⟩
    simp (disch := first | assumption | omega) only [am_i_add, am_i_sub, am_i_mul, am_ok_i, am_i_cl, n_lt, n_le, n_eq, n_lt0, n_le0, n_0lt, n_0le, n_eq0, ne_eq, ↓reduceIte, not_true_eq_false, not_false_eq_true, and_true, true_and, and_false, false_and, eq_T, eq_F, lt_T, lt_F, le_T, le_F, qn_T, qn_F, and_F, b01_T, b01_F, e_isIn, Int32.toInt_toInt64, am_i_toInt, am_l_toInt, Int.toNat_natCast, Int.reduceToNat, Int.reduceAdd, Int.reduceSub, Int.reduceMul, Int.reduceNeg, Nat.reduceAdd, Nat.reduceMul, Nat.add_zero, Nat.mul_zero, Nat.zero_add, am_zb0, am_zb1, ↓Bool.cond_decide, cond_true, cond_false, ↓am_let_s, ↓bI_p, bIJ_s, ↓bV_p, bVJ_s, ↓bL_p, bLJ_s, ly_cf, Bool.and_self, Bool.and_true]
    refine Wp_V (m_back hm1 ht4 (by rw [g2 _ _ (by omega)]; exact mT)) ?_
    rintro _ _ ⟨I5, rfl, rfl, e5⟩
    refine ⟨rfl, Wp_r ⟨I5, J4, _, rfl, rfl, vV_s hV0 (fun q k e => ?_) (fun q k e1 e2 => hj4 q k e1) hR1⟩⟩
    rw [e5 q k e, g2 q k (by unfold sC at e; omega)]
  · refine ⟨am_i (-1), ?_⟩
    have mB := fun d => e_misBoat d (am_i z) nb I J R hm b3 m1
    have cl : am_E (d + 9) 113 0 [(0, .ref 3), (1, .int (am_i z))] [] (I, J, R, 138) = some (some (.int (am_i (-1))), (I, J, R, 138)) := by
      rw [sg_X11_lands_0]
      simp (disch := first | assumption | omega) only [rX hx, ly_csx, ly_cax, ly_cf, ly_kd, ly_ln, ↓Bool.cond_decide, cond_true, cond_false, ↓bI_p, ↓bV_p, ↓bL_p, bIJ_s, bVJ_s, bLJ_s, ↓am_let_s, Nat.blt, Nat.ble, Bool.and_true, Bool.true_and, Bool.and_self, Int.cast_ofNat_Int, am_i_add, am_i_sub, am_i_mul, am_ok_i, am_i_cl, n_lt, n_le, n_eq, n_lt0, n_le0, n_0lt, n_0le, n_eq0, ne_eq, ↓reduceIte, not_true_eq_false, not_false_eq_true, and_true, true_and, and_false, false_and, eq_T, eq_F, lt_T, lt_F, le_T, le_F, qn_T, qn_F, and_F, b01_T, b01_F, e_isIn, Int32.toInt_toInt64, am_i_toInt, am_l_toInt, Int.toNat_natCast, Int.reduceToNat, Int.reduceAdd, Int.reduceSub, Int.reduceMul, Int.reduceNeg, Nat.reduceAdd, Nat.reduceMul, Nat.add_zero, Nat.mul_zero, Nat.zero_add, am_zb0, am_zb1, h4, rC hx hc, xB, b01_f]
    refine Wp_e cl (Wp_r ⟨I, J, R, rfl, rfl, rfl, rfl, ?_⟩)
    have cm : am_E (d + 9) 228 0 [(0, .ref 64), (1, .int (am_i z))] [] (I, J, R, 138) = some (some (.int (am_i (-1))), (I, J, R, 138)) := by
      rw [sg_X12_lands_0]
      simp (disch := first | assumption | omega) only [rM hm, ly_csm, ly_cam, ly_cf, ly_kd, ly_ln, ↓Bool.cond_decide, cond_true, cond_false, ↓bI_p, ↓bV_p, ↓bL_p, bIJ_s, bVJ_s, bLJ_s, ↓am_let_s, Nat.blt, Nat.ble, Bool.and_true, Bool.true_and, Bool.and_self, Int.cast_ofNat_Int, am_i_add, am_i_sub, am_i_mul, am_ok_i, am_i_cl, n_lt, n_le, n_eq, n_lt0, n_le0, n_0lt, n_0le, n_eq0, ne_eq, ↓reduceIte, not_true_eq_false, not_false_eq_true, and_true, true_and, and_false, false_and, eq_T, eq_F, lt_T, lt_F, le_T, le_F, qn_T, qn_F, and_F, b01_T, b01_F, e_isIn, Int32.toInt_toInt64, am_i_toInt, am_l_toInt, Int.toNat_natCast, Int.reduceToNat, Int.reduceAdd, Int.reduceSub, Int.reduceMul, Int.reduceNeg, Nat.reduceAdd, Nat.reduceMul, Nat.add_zero, Nat.mul_zero, Nat.zero_add, am_zb0, am_zb1, mB, b01_f]
    exact Wp_e cm (Wp_r ⟨I, J, R, rfl, rfl, hV0⟩)
end PLAN
