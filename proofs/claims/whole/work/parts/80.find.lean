/-! ===== plans: the class finds one; the pair ===== -/
def bS : Nat → Nat
  | 0 => 1
  | j + 1 => bS j + 8 ^ (j + 1)
def plP (nn : Nat) (x0 : bt) (e : Nat) (E : Nat → qent) (I0 I : tI) (J0 J : tJ) : Prop :=
  (I 35 6 = am_i x0.pl ∧ I 35 7 = am_i nn ∧ ∀ k, k < nn → I 41 k = am_i (x0.sc k)) ∧ I 49 1 = am_i e ∧ (∀ q, q < e → (E q).1 ≤ 60 ∧ (E q).2.1 ≤ 99 ∧ (E q).2.2 < 4096 ∧ I 50 q = am_i (pkE (E q))) ∧ (∀ q k, ¬ (35 ≤ q ∧ q ≤ 41) → q ≠ 49 → q ≠ 50 → I q k = I0 q k) ∧ ∀ q k, q ≠ 51 → J q k = J0 q k
def fndQ (last : Nat) (bw : bt → Nat → bt) (x0 : bt) (tg : Nat) (R : tR) (I0 : tI) (J0 : tJ) (r : Option Value) (M : am_Mem) : Prop := ∃ (I' : tI) (J' : tJ) (N : Int) (g : Nat → Nat), r = some (.int (am_i N)) ∧ M = (I', J', R, 138) ∧ (∀ q k, ¬ (35 ≤ q ∧ q ≤ 41) → q ≠ 49 → q ≠ 50 → I' q k = I0 q k) ∧ (∀ q k, q ≠ 51 → J' q k = J0 q k) ∧ plR last bw x0 tg N g ∧ ∀ n : Nat, N = n → I' 49 3 = am_i n ∧ I' 49 4 = am_i (cdF 8 g n)
section FND
variable {d : Nat} {R : tR} {c last wd nn tg : Nat} {wf : Nat → Nat} {fm : Nat → List tok} {x0 : bt} {I0 : tI} {J0 : tJ}
theorem x_fillL {I : tI} {v : Int64} (hx : st_Rx R) : ∀ (m i : Nat) (J : tJ), i + m = 122 → ∃ J', am_E (d + 1) 78 6 [(0, .ref 51), (1, .long v), (3, .int (am_i i)), (4, .int (am_i 122))] [] (I, J, R, 138) = some (none, (I, J', R, 138)) ∧ (∀ k, i ≤ k → k < 122 → J' 51 k = v) ∧ ∀ q k, ¬ (q = 51 ∧ i ≤ k) → J' q k = J q k
  | 0, i, J, hi => by
    refine ⟨J, ?_, fun k k1 k2 => absurd k2 (by omega), fun _ _ _ => rfl⟩
    rw [sg_J_fillL_6]
    simp (disch := first | assumption | omega) only [rX hx, ly_csx, ly_cax, ly_cf, ly_kd, ly_ln, ↓Bool.cond_decide, cond_true, cond_false, ↓bI_p, ↓bV_p, ↓bL_p, bIJ_s, bVJ_s, bLJ_s, ↓am_let_s, Nat.blt, Nat.ble, Bool.and_true, Bool.true_and, Bool.and_self, Int.cast_ofNat_Int, am_i_add, am_i_sub, am_i_mul, am_ok_i, am_i_cl, n_lt, n_le, n_eq, n_lt0, n_le0, n_0lt, n_0le, n_eq0, ne_eq, ↓reduceIte, not_true_eq_false, not_false_eq_true, and_true, true_and, and_false, false_and, eq_T, eq_F, lt_T, lt_F, le_T, le_F, qn_T, qn_F, and_F, b01_T, b01_F, e_isIn, Int32.toInt_toInt64, am_i_toInt, am_l_toInt, Int.toNat_natCast, Int.reduceToNat, Int.reduceAdd, Int.reduceSub, Int.reduceMul, Int.reduceNeg, Nat.reduceAdd, Nat.reduceMul, Nat.add_zero, Nat.mul_zero, Nat.zero_add, am_zb0, am_zb1]
  | m + 1, i, J, hi => by
    obtain ⟨J', g1, g2, g3⟩ := x_fillL (I := I) (v := v) hx m (i + 1) (am_up J 51 i v) (by omega)
    refine ⟨J', ?_, fun k k1 k2 => ?_, fun q k e => by rw [g3 q k (by omega), am_up_o (by omega)]⟩
    · rw [← g1, sg_J_fillL_6]
      simp (disch := first | assumption | omega) only [rX hx, ly_csx, ly_cax, ly_cf, ly_kd, ly_ln, ↓Bool.cond_decide, cond_true, cond_false, ↓bI_p, ↓bV_p, ↓bL_p, bIJ_s, bVJ_s, bLJ_s, ↓am_let_s, Nat.blt, Nat.ble, Bool.and_true, Bool.true_and, Bool.and_self, Int.cast_ofNat_Int, am_i_add, am_i_sub, am_i_mul, am_ok_i, am_i_cl, n_lt, n_le, n_eq, n_lt0, n_le0, n_0lt, n_0le, n_eq0, ne_eq, ↓reduceIte, not_true_eq_false, not_false_eq_true, and_true, true_and, and_false, false_and, eq_T, eq_F, lt_T, lt_F, le_T, le_F, qn_T, qn_F, and_F, b01_T, b01_F, e_isIn, Int32.toInt_toInt64, am_i_toInt, am_l_toInt, Int.toNat_natCast, Int.reduceToNat, Int.reduceAdd, Int.reduceSub, Int.reduceMul, Int.reduceNeg, Nat.reduceAdd, Nat.reduceMul, Nat.add_zero, Nat.mul_zero, Nat.zero_add, am_zb0, am_zb1, am_i_s]
    · by_cases e : k = i
      · subst e
        rw [g3 _ _ (by omega), am_up_e]
      · exact g2 k (by omega) k2
theorem x_f90 {a e j : Nat} {Q : Option Value → am_Mem → Prop} (hx : st_Rx R) (hc : c = 10 ∨ c = 20) (hR : R 35 1 = c) (hX : cxX c last wd wf fm I0) (hO : bOK last nn x0) (htg : tg ≤ 60) (hj : j ≤ 4) (he : e ≤ 4681) (hcap : j ≤ 3 → e + 8 * (e - a) ≤ 4681)
    (K1 : ∀ (E : Nat → qent) (t : Nat) (I : tI) (J : tJ), lyO last (bwF last wf fm wd) x0 tg E e t (j + 1) → (∀ h : Nat → Nat, (∀ k, k < j + 1 → h k ≤ 7) → pF last (bwF last wf fm wd) x0 tg h (j + 1) = false) → e ≤ t → t ≤ e + 8 * (e - a) → plP nn x0 t E I0 I J0 J → Wp Q (am_E (d + 7) 64 64 [(0, .ref 49), (1, .ref 35), (2, .int (am_i wd)), (3, .int (am_i tg)), (4, .int (am_i x0.ro)), (5, .int (am_i e)), (6, .int (am_i (j + 1 + 1 : Nat)))] [] (I, J, R, 138)))
    (K2 : ∀ (I : tI) (J : tJ) (g : Nat → Nat), (∀ q k, ¬ (35 ≤ q ∧ q ≤ 41) → q ≠ 49 → q ≠ 50 → I q k = I0 q k) → (∀ q k, q ≠ 51 → J q k = J0 q k) → I 49 3 = am_i (j + 1 : Nat) → (∀ k, k < j + 1 → g k ≤ 7) → pF last (bwF last wf fm wd) x0 tg g (j + 1) = true → (∀ h : Nat → Nat, (∀ k, k < j + 1 → h k ≤ 7) → pF last (bwF last wf fm wd) x0 tg h (j + 1) = true → cdF 8 g (j + 1) ≤ cdF 8 h (j + 1)) → I 49 4 = am_i (cdF 8 g (j + 1)) → Q (some (.int (am_i (j + 1 : Nat)))) (I, J, R, 138)) :
    ∀ (m i t : Nat) (E : Nat → qent) (I : tI) (J : tJ), i + m = e → a ≤ i → lyO last (bwF last wf fm wd) x0 tg E a e j → nwS last (bwF last wf fm wd) x0 tg E a e j i 0 t → e ≤ t → t ≤ e + 8 * (i - a) → plM nn x0 j t e E I0 I J0 J → Wp Q (am_E (d + 7) 64 90 [(0, .ref 49), (1, .ref 35), (2, .int (am_i wd)), (3, .int (am_i tg)), (4, .int (am_i x0.ro)), (5, .int (am_i i)), (6, .int (am_i (j + 1 : Nat))), (7, .int (am_i e))] [] (I, J, R, 138))
  | 0, i, t, E, I, J, hi, hai, hL, hN, h1, h2, hM => by
    have : i = e := by omega
    subst this
    have hw : bwOK last (bwF last wf fm wd) := bwF_ok
    obtain ⟨p1, p2, p3, p4, p5, p6, p7⟩ := hM
    have k := K1 E t I J (nw_l hw hO.1 hL hj hN) (fun h hh => nw_n hw hO.1 hL hj hN hh) h1 h2 ⟨p1, p2, p4, p6, p7⟩
    rw [sg_X8_find_90]
    simp (disch := first | assumption | omega) only [am_i_add, am_i_sub, am_i_mul, am_ok_i, am_i_cl, n_lt, n_le, n_eq, n_lt0, n_le0, n_0lt, n_0le, n_eq0, ne_eq, ↓reduceIte, not_true_eq_false, not_false_eq_true, and_true, true_and, and_false, false_and, eq_T, eq_F, lt_T, lt_F, le_T, le_F, qn_T, qn_F, and_F, b01_T, b01_F, e_isIn, Int32.toInt_toInt64, am_i_toInt, am_l_toInt, Int.toNat_natCast, Int.reduceToNat, Int.reduceAdd, Int.reduceSub, Int.reduceMul, Int.reduceNeg, Nat.reduceAdd, Nat.reduceMul, Nat.add_zero, Nat.mul_zero, Nat.zero_add, am_zb0, am_zb1, ↓Bool.cond_decide, cond_true, cond_false, ↓am_let_s, ↓bI_p, bIJ_s, ↓bV_p, bVJ_s, ↓bL_p, bLJ_s, ly_cf, Bool.and_self, Bool.and_true, am_i_s]
    exact k
  | m + 1, i, t, E, I, J, hi, hai, hL, hN, h1, h2, hM => by
    obtain ⟨-, -, -, e4⟩ := hM.2.2.2.1 i (by omega)
    have r99 := hO.2.2.1
    have fo := x_f29 (d := d) (R := R) (i := i) (E := E) (I := I) (J := J) hx hc hR hX hO htg hj hcap hai (by omega) (E i) 8 0 t (by omega) hL hN h1 (by omega) hM rfl
    have go : ∀ v : Int, v = (x0.ro - j : Nat) → Wp Q (bIJ (fun v1 M1 => bif decide (v1 = 0) then am_let (am_i (i : Int) + am_i 1) (fun x2 => am_E (d + 7) 64 90 [(0, .ref 49), (1, .ref 35), (2, .int (am_i wd)), (3, .int (am_i tg)), (4, .int (am_i x0.ro)), (5, .int x2), (6, .int (am_i (j + 1 : Nat))), (7, .int (am_i e))] [] M1) else some (some (.int (am_i (j + 1 : Nat))), M1)) (am_E (d + 6) 67 29 [(0, .ref 49), (1, .ref 35), (2, .int (am_i wd)), (3, .int (am_i tg)), (5, .int (am_i v)), (6, .int (am_i (pkE (E i)))), (7, .int (am_i 0))] [] (I, J, R, 138))) := by
      intro v hv
      rw [hv]
      refine Wp_I fo ?_
      rintro r M ⟨I', J', rfl, q1, q2, ⟨rfl, w1, g, w2, w3, w4, w5⟩ | ⟨rfl, E', t', w1, w2, w3, w4, w5, w6⟩⟩
      · refine ⟨_, rfl, ?_⟩
        simp (disch := first | assumption | omega) only [am_i_add, am_i_sub, am_i_mul, am_ok_i, am_i_cl, n_lt, n_le, n_eq, n_lt0, n_le0, n_0lt, n_0le, n_eq0, ne_eq, ↓reduceIte, not_true_eq_false, not_false_eq_true, and_true, true_and, and_false, false_and, eq_T, eq_F, lt_T, lt_F, le_T, le_F, qn_T, qn_F, and_F, b01_T, b01_F, e_isIn, Int32.toInt_toInt64, am_i_toInt, am_l_toInt, Int.toNat_natCast, Int.reduceToNat, Int.reduceAdd, Int.reduceSub, Int.reduceMul, Int.reduceNeg, Nat.reduceAdd, Nat.reduceMul, Nat.add_zero, Nat.mul_zero, Nat.zero_add, am_zb0, am_zb1, ↓Bool.cond_decide, cond_true, cond_false, ↓am_let_s, ↓bI_p, bIJ_s, ↓bV_p, bVJ_s, ↓bL_p, bLJ_s, ly_cf, Bool.and_self, Bool.and_true]
        exact Wp_r (K2 I' J' g q1 q2 w1 w2 w3 w4 w5)
      · refine ⟨_, rfl, ?_⟩
        simp (disch := first | assumption | omega) only [am_i_add, am_i_sub, am_i_mul, am_ok_i, am_i_cl, n_lt, n_le, n_eq, n_lt0, n_le0, n_0lt, n_0le, n_eq0, ne_eq, ↓reduceIte, not_true_eq_false, not_false_eq_true, and_true, true_and, and_false, false_and, eq_T, eq_F, lt_T, lt_F, le_T, le_F, qn_T, qn_F, and_F, b01_T, b01_F, e_isIn, Int32.toInt_toInt64, am_i_toInt, am_l_toInt, Int.toNat_natCast, Int.reduceToNat, Int.reduceAdd, Int.reduceSub, Int.reduceMul, Int.reduceNeg, Nat.reduceAdd, Nat.reduceMul, Nat.add_zero, Nat.mul_zero, Nat.zero_add, am_zb0, am_zb1, ↓Bool.cond_decide, cond_true, cond_false, ↓am_let_s, ↓bI_p, bIJ_s, ↓bV_p, bVJ_s, ↓bL_p, bLJ_s, ly_cf, Bool.and_self, Bool.and_true, am_i_s]
        exact x_f90 hx hc hR hX hO htg hj he hcap K1 K2 m (i + 1) t' E' I' J' (by omega) (by omega) w1 (nw_8 w2) w3 (by omega) w5
    rw [sg_X8_find_90]
    by_cases q : x0.ro < j + 1
    · by_cases q2 : x0.ro = j
      · have := go ((x0.ro : Int) - ((j + 1 : Nat) : Int) + 1) (by omega)
        simp (disch := first | assumption | omega) only [rX hx, ly_csx, ly_cax, ly_cf, ly_kd, ly_ln, ↓Bool.cond_decide, cond_true, cond_false, ↓bI_p, ↓bV_p, ↓bL_p, bIJ_s, bVJ_s, bLJ_s, ↓am_let_s, Nat.blt, Nat.ble, Bool.and_true, Bool.true_and, Bool.and_self, Int.cast_ofNat_Int, am_i_add, am_i_sub, am_i_mul, am_ok_i, am_i_cl, n_lt, n_le, n_eq, n_lt0, n_le0, n_0lt, n_0le, n_eq0, ne_eq, ↓reduceIte, not_true_eq_false, not_false_eq_true, and_true, true_and, and_false, false_and, eq_T, eq_F, lt_T, lt_F, le_T, le_F, qn_T, qn_F, and_F, b01_T, b01_F, e_isIn, Int32.toInt_toInt64, am_i_toInt, am_l_toInt, Int.toNat_natCast, Int.reduceToNat, Int.reduceAdd, Int.reduceSub, Int.reduceMul, Int.reduceNeg, Nat.reduceAdd, Nat.reduceMul, Nat.add_zero, Nat.mul_zero, Nat.zero_add, am_zb0, am_zb1, sg_X8_follow_0, e4]
        have z : (0 : Int) = ((x0.ro - j : Nat) : Int) := by omega
        exact go 0 z
      · simp (disch := first | assumption | omega) only [rX hx, ly_csx, ly_cax, ly_cf, ly_kd, ly_ln, ↓Bool.cond_decide, cond_true, cond_false, ↓bI_p, ↓bV_p, ↓bL_p, bIJ_s, bVJ_s, bLJ_s, ↓am_let_s, Nat.blt, Nat.ble, Bool.and_true, Bool.true_and, Bool.and_self, Int.cast_ofNat_Int, am_i_add, am_i_sub, am_i_mul, am_ok_i, am_i_cl, n_lt, n_le, n_eq, n_lt0, n_le0, n_0lt, n_0le, n_eq0, ne_eq, ↓reduceIte, not_true_eq_false, not_false_eq_true, and_true, true_and, and_false, false_and, eq_T, eq_F, lt_T, lt_F, le_T, le_F, qn_T, qn_F, and_F, b01_T, b01_F, e_isIn, Int32.toInt_toInt64, am_i_toInt, am_l_toInt, Int.toNat_natCast, Int.reduceToNat, Int.reduceAdd, Int.reduceSub, Int.reduceMul, Int.reduceNeg, Nat.reduceAdd, Nat.reduceMul, Nat.add_zero, Nat.mul_zero, Nat.zero_add, am_zb0, am_zb1, sg_X8_follow_0, e4]
        exact go 0 (by omega)
    · simp (disch := first | assumption | omega) only [rX hx, ly_csx, ly_cax, ly_cf, ly_kd, ly_ln, ↓Bool.cond_decide, cond_true, cond_false, ↓bI_p, ↓bV_p, ↓bL_p, bIJ_s, bVJ_s, bLJ_s, ↓am_let_s, Nat.blt, Nat.ble, Bool.and_true, Bool.true_and, Bool.and_self, Int.cast_ofNat_Int, am_i_add, am_i_sub, am_i_mul, am_ok_i, am_i_cl, n_lt, n_le, n_eq, n_lt0, n_le0, n_0lt, n_0le, n_eq0, ne_eq, ↓reduceIte, not_true_eq_false, not_false_eq_true, and_true, true_and, and_false, false_and, eq_T, eq_F, lt_T, lt_F, le_T, le_F, qn_T, qn_F, and_F, b01_T, b01_F, e_isIn, Int32.toInt_toInt64, am_i_toInt, am_l_toInt, Int.toNat_natCast, Int.reduceToNat, Int.reduceAdd, Int.reduceSub, Int.reduceMul, Int.reduceNeg, Nat.reduceAdd, Nat.reduceMul, Nat.add_zero, Nat.mul_zero, Nat.zero_add, am_zb0, am_zb1, sg_X8_follow_0, e4]
      exact go _ (by omega)
theorem x_f64 (hx : st_Rx R) (hc : c = 10 ∨ c = 20) (hR : R 35 1 = c) (hX : cxX c last wd wf fm I0) (hO : bOK last nn x0) (htg : tg ≤ 60) : ∀ (m j a e : Nat) (E : Nat → qent) (I : tI) (J : tJ), j + m = 5 → a ≤ e → e ≤ bS j → e - a ≤ 8 ^ j → lyO last (bwF last wf fm wd) x0 tg E a e j → (∀ m, m ≤ j → ∀ h : Nat → Nat, (∀ k, k < m → h k ≤ 7) → pF last (bwF last wf fm wd) x0 tg h m = false) → plP nn x0 e E I0 I J0 J → Wp (fndQ last (bwF last wf fm wd) x0 tg R I0 J0) (am_E (d + 7) 64 64 [(0, .ref 49), (1, .ref 35), (2, .int (am_i wd)), (3, .int (am_i tg)), (4, .int (am_i x0.ro)), (5, .int (am_i a)), (6, .int (am_i (j + 1 : Nat)))] [] (I, J, R, 138))
  | 0, j, a, e, E, I, J, hj, hae, hb1, hb2, hL, hno, hP => by
    rw [sg_X8_find_64]
    simp (disch := first | assumption | omega) only [am_i_add, am_i_sub, am_i_mul, am_ok_i, am_i_cl, n_lt, n_le, n_eq, n_lt0, n_le0, n_0lt, n_0le, n_eq0, ne_eq, ↓reduceIte, not_true_eq_false, not_false_eq_true, and_true, true_and, and_false, false_and, eq_T, eq_F, lt_T, lt_F, le_T, le_F, qn_T, qn_F, and_F, b01_T, b01_F, e_isIn, Int32.toInt_toInt64, am_i_toInt, am_l_toInt, Int.toNat_natCast, Int.reduceToNat, Int.reduceAdd, Int.reduceSub, Int.reduceMul, Int.reduceNeg, Nat.reduceAdd, Nat.reduceMul, Nat.add_zero, Nat.mul_zero, Nat.zero_add, am_zb0, am_zb1, ↓Bool.cond_decide, cond_true, cond_false, ↓am_let_s, ↓bI_p, bIJ_s, ↓bV_p, bVJ_s, ↓bL_p, bLJ_s, ly_cf, Bool.and_self, Bool.and_true]
    exact Wp_r ⟨I, J, -1, fun _ => 0, rfl, rfl, hP.2.2.2.1, hP.2.2.2.2, Or.inl ⟨rfl, fun m hm => hno m (by omega)⟩, fun n hn => by omega⟩
  | m + 1, j, a, e, E, I, J, hj, hae, hb1, hb2, hL, hno, hP => by
    obtain ⟨p1, p2, p3, p4, p5⟩ := hP
    have hs : bS (j + 1) = bS j + 8 ^ (j + 1) := rfl
    have h8 : 8 ^ (j + 1) = 8 ^ j * 8 := Nat.pow_succ 8 j
    have hbS : bS j ≤ 4681 ∧ (j ≤ 3 → bS (j + 1) ≤ 4681) := by
      have : j = 0 ∨ j = 1 ∨ j = 2 ∨ j = 3 ∨ j = 4 := by omega
      rcases this with rfl | rfl | rfl | rfl | rfl
      · decide
      · decide
      · decide
      · decide
      · exact ⟨by decide, fun h => by omega⟩
    obtain ⟨J1, g1, g2, g3⟩ := x_fillL (d := d + 5) (R := R) (I := am_up I 49 3 (am_i (j + 1 : Nat))) (v := am_l 0) hx 122 0 J (by omega)
    have g1' : am_E (d + 6) 78 6 [(0, .ref 51), (1, .long (am_l 0)), (3, .int (am_i 0)), (4, .int (am_i 122))] [] (am_up I 49 3 (am_i (j + 1 : Nat)), J, R, 138) = _ := g1
    have e1 : am_up I 49 3 (am_i (j + 1 : Nat)) 49 1 = am_i e := by rw [am_up_o (by omega)]; exact p2
    have z64 : ∀ k, k < 64 → b64 (am_l 0) k = false := by
      intro k hk
      unfold b64
      have z : (am_l 0).toBitVec = 0#64 := by decide
      rw [z]
      simp
    have hM : plM nn x0 j e e E I0 (am_up I 49 3 (am_i (j + 1 : Nat))) J0 J1 := by
      refine ⟨⟨by rw [am_up_o (by omega)]; exact p1.1, by rw [am_up_o (by omega)]; exact p1.2.1, fun k hk => by rw [am_up_o (by omega)]; exact p1.2.2 k hk⟩, e1, am_up_e, fun q hq => ⟨(p3 q hq).1, (p3 q hq).2.1, (p3 q hq).2.2.1, by rw [am_up_o (by omega)]; exact (p3 q hq).2.2.2⟩, fun m' ti hm' hti => ?_, fun q k b1 b2 b3 => by rw [am_up_o (by omega)]; exact p4 q k b1 b2 b3, fun q k b1 => by rw [g3 q k (by omega)]; exact p5 q k b1⟩
      rw [g2 _ (by omega) (by omega), z64 _ (by omega)]
      constructor
      · intro h; cases h
      · rintro ⟨q, k1, k2, -⟩; omega
    have k := x_f90 (d := d) (R := R) (a := a) (e := e) (j := j) (J0 := J0) (Q := fndQ last (bwF last wf fm wd) x0 tg R I0 J0) hx hc hR hX hO htg (by omega) (by omega) (fun h => by have := hbS.2 h; omega) (fun E' t I' J' k1 k2 k3 k4 k5 => x_f64 hx hc hR hX hO htg m (j + 1) e t E' I' J' (by omega) k3 (by omega) (by omega) k1 (fun m' hm' => by
      by_cases c : m' = j + 1
      · rw [c]; exact k2
      · exact hno m' (by omega)) k5) (fun I' J' g k1 k2 k3 k4 k5 k6 k7 => ⟨I', J', ((j + 1 : Nat) : Int), g, rfl, rfl, k1, k2, Or.inr ⟨j + 1, rfl, by omega, k4, k5, k6, fun m' hm' => hno m' (by omega)⟩, fun n hn => by
      have : n = j + 1 := by omega
      subst this
      exact ⟨k3, k7⟩⟩) (e - a) a e E (am_up I 49 3 (am_i (j + 1 : Nat))) J1 (by omega) (Nat.le_refl _) hL nw_0 (Nat.le_refl _) (by omega) hM
    rw [sg_X8_find_64]
    simp (disch := first | assumption | omega) only [rX hx, ly_csx, ly_cax, ly_cf, ly_kd, ly_ln, ↓Bool.cond_decide, cond_true, cond_false, ↓bI_p, ↓bV_p, ↓bL_p, bIJ_s, bVJ_s, bLJ_s, ↓am_let_s, Nat.blt, Nat.ble, Bool.and_true, Bool.true_and, Bool.and_self, Int.cast_ofNat_Int, am_i_add, am_i_sub, am_i_mul, am_ok_i, am_i_cl, n_lt, n_le, n_eq, n_lt0, n_le0, n_0lt, n_0le, n_eq0, ne_eq, ↓reduceIte, not_true_eq_false, not_false_eq_true, and_true, true_and, and_false, false_and, eq_T, eq_F, lt_T, lt_F, le_T, le_F, qn_T, qn_F, and_F, b01_T, b01_F, e_isIn, Int32.toInt_toInt64, am_i_toInt, am_l_toInt, Int.toNat_natCast, Int.reduceToNat, Int.reduceAdd, Int.reduceSub, Int.reduceMul, Int.reduceNeg, Nat.reduceAdd, Nat.reduceMul, Nat.add_zero, Nat.mul_zero, Nat.zero_add, am_zb0, am_zb1, sg_J_fillL_0, g1', e1]
    exact k
theorem x_find (hx : st_Rx R) (hc : c = 10 ∨ c = 20) (hR : R 35 1 = c) (hX : cxX c last wd wf fm I0) (hO : bOK last nn x0) (hs : x0.su = 0) (htg : tg ≤ 60) (hH : hullR 35 I0 nn x0) : Wp (fndQ last (bwF last wf fm wd) x0 tg R I0 J0) (am_E (d + 7) 64 0 [(0, .ref 49), (1, .ref 35), (2, .int (am_i wd)), (3, .int (am_i tg))] [] (I0, J0, R, 138)) := by
  have hl := hX.2.1
  have ml := hO.1
  obtain ⟨z2, z3, z4, z5, z6, z7, z8⟩ := hH
  have g : ∀ q k, q ≠ 49 → am_up (am_up I0 49 3 (am_i 0)) 49 4 (am_i 0) q k = I0 q k := fun q k h => by rw [am_up_o (by omega), am_up_o (by omega)]
  have g3 : am_up (am_up I0 49 3 (am_i 0)) 49 4 (am_i 0) 49 3 = am_i 0 := by rw [am_up_o (by omega), am_up_e]
  have g4 : am_up (am_up I0 49 3 (am_i 0)) 49 4 (am_i 0) 49 4 = am_i 0 := am_up_e
  rw [sg_X8_find_0]
  simp (disch := first | assumption | omega) only [rX hx, ly_csx, ly_cax, ly_cf, ly_kd, ly_ln, ↓Bool.cond_decide, cond_true, cond_false, ↓bI_p, ↓bV_p, ↓bL_p, bIJ_s, bVJ_s, bLJ_s, ↓am_let_s, Nat.blt, Nat.ble, Bool.and_true, Bool.true_and, Bool.and_self, Int.cast_ofNat_Int]
  generalize am_up (am_up I0 49 3 (am_i 0)) 49 4 (am_i 0) = I1 at *
  have y2 : I1 35 2 = am_i x0.mi := by rw [g _ _ (by omega)]; exact z2
  have y3 : I1 35 3 = am_i x0.ti := by rw [g _ _ (by omega)]; exact z3
  have y4 : I1 35 4 = am_i x0.ro := by rw [g _ _ (by omega)]; exact z4
  by_cases q : x0.mi = tg
  · have y2' : I1 35 2 = am_i tg := by rw [y2, q]
    simp (disch := first | assumption | omega) only [rX hx, ly_csx, ly_cax, ly_cf, ly_kd, ly_ln, ↓Bool.cond_decide, cond_true, cond_false, ↓bI_p, ↓bV_p, ↓bL_p, bIJ_s, bVJ_s, bLJ_s, ↓am_let_s, Nat.blt, Nat.ble, Bool.and_true, Bool.true_and, Bool.and_self, Int.cast_ofNat_Int, am_i_add, am_i_sub, am_i_mul, am_ok_i, am_i_cl, n_lt, n_le, n_eq, n_lt0, n_le0, n_0lt, n_0le, n_eq0, ne_eq, ↓reduceIte, not_true_eq_false, not_false_eq_true, and_true, true_and, and_false, false_and, eq_T, eq_F, lt_T, lt_F, le_T, le_F, qn_T, qn_F, and_F, b01_T, b01_F, e_isIn, Int32.toInt_toInt64, am_i_toInt, am_l_toInt, Int.toNat_natCast, Int.reduceToNat, Int.reduceAdd, Int.reduceSub, Int.reduceMul, Int.reduceNeg, Nat.reduceAdd, Nat.reduceMul, Nat.add_zero, Nat.mul_zero, Nat.zero_add, am_zb0, am_zb1, y2']
    refine Wp_r ⟨I1, J0, 0, fun _ => 0, rfl, rfl, fun q k _ b2 _ => g q k b2, fun _ _ _ => rfl, Or.inr ⟨0, rfl, by omega, fun k hk => absurd hk (by omega), pF_1.mpr ⟨rfl, q, hs⟩, fun _ _ _ => Nat.le_refl _, fun m hm => absurd hm (by omega)⟩, fun n hn => ?_⟩
    have : n = 0 := by omega
    subst this
    exact ⟨g3, g4⟩
  · have xl := fun d => x_landed (d := d) (J := J0) (I := I1) (m := x0.mi) hx (Or.inl rfl) hc hR (by omega) hl y2 (by rw [g _ _ (by omega)]; exact hX.1)
    have p0 : ∀ h : Nat → Nat, pF last (bwF last wf fm wd) x0 tg h 0 = false := fun h => pF_0 (fun e => q e.2.1)
    by_cases ql : x0.mi = last
    · simp (disch := first | assumption | omega) only [rX hx, ly_csx, ly_cax, ly_cf, ly_kd, ly_ln, ↓Bool.cond_decide, cond_true, cond_false, ↓bI_p, ↓bV_p, ↓bL_p, bIJ_s, bVJ_s, bLJ_s, ↓am_let_s, Nat.blt, Nat.ble, Bool.and_true, Bool.true_and, Bool.and_self, Int.cast_ofNat_Int, am_i_add, am_i_sub, am_i_mul, am_ok_i, am_i_cl, n_lt, n_le, n_eq, n_lt0, n_le0, n_0lt, n_0le, n_eq0, ne_eq, ↓reduceIte, not_true_eq_false, not_false_eq_true, and_true, true_and, and_false, false_and, eq_T, eq_F, lt_T, lt_F, le_T, le_F, qn_T, qn_F, and_F, b01_T, b01_F, e_isIn, Int32.toInt_toInt64, am_i_toInt, am_l_toInt, Int.toNat_natCast, Int.reduceToNat, Int.reduceAdd, Int.reduceSub, Int.reduceMul, Int.reduceNeg, Nat.reduceAdd, Nat.reduceMul, Nat.add_zero, Nat.mul_zero, Nat.zero_add, am_zb0, am_zb1, y2, xl, b01_t ql]
      refine Wp_r ⟨I1, J0, -1, fun _ => 0, rfl, rfl, fun q k _ b2 _ => g q k b2, fun _ _ _ => rfl, Or.inl ⟨rfl, fun m hm h hh => ?_⟩, fun n hn => by omega⟩
      cases m with
      | zero => exact p0 h
      | succ m => exact pF_0 (fun e => (aF_1.mp (aF_m (n := m + 1) (k := 0 + 1) (by omega) e.1)).2.2 ql)
    · have pk := pk_i (r := 0) (m := x0.mi) (t := x0.ti) (by omega) (by have := hO.2.1; omega)
      have pk' : ((am_i 0 <<< (am_i 13 &&& 31)) ||| (am_i (x0.mi : Int) <<< (am_i 7 &&& 31))) ||| am_i (x0.ti : Int) = am_i ((0 * 8192 + x0.mi * 128 + x0.ti : Nat) : Int) := pk
      simp (disch := first | assumption | omega) only [rX hx, ly_csx, ly_cax, ly_cf, ly_kd, ly_ln, ↓Bool.cond_decide, cond_true, cond_false, ↓bI_p, ↓bV_p, ↓bL_p, bIJ_s, bVJ_s, bLJ_s, ↓am_let_s, Nat.blt, Nat.ble, Bool.and_true, Bool.true_and, Bool.and_self, Int.cast_ofNat_Int, am_i_add, am_i_sub, am_i_mul, am_ok_i, am_i_cl, n_lt, n_le, n_eq, n_lt0, n_le0, n_0lt, n_0le, n_eq0, ne_eq, ↓reduceIte, not_true_eq_false, not_false_eq_true, and_true, true_and, and_false, false_and, eq_T, eq_F, lt_T, lt_F, le_T, le_F, qn_T, qn_F, and_F, b01_T, b01_F, e_isIn, Int32.toInt_toInt64, am_i_toInt, am_l_toInt, Int.toNat_natCast, Int.reduceToNat, Int.reduceAdd, Int.reduceSub, Int.reduceMul, Int.reduceNeg, Nat.reduceAdd, Nat.reduceMul, Nat.add_zero, Nat.mul_zero, Nat.zero_add, am_zb0, am_zb1, y2, y3, y4, xl, b01_f ql, sg_X8_pack_0, pk']
      have x0e : x0 = eS x0 (x0.mi, x0.ti, 0) 0 := bt_e rfl rfl rfl hs rfl rfl
      have al : ∀ f : Nat → Nat, aF last (bwF last wf fm wd) x0 f (0 + 1) = true := fun f => aF_1.mpr ⟨rfl, hs, ql⟩
      refine x_f64 (d := d) (R := R) hx hc hR hX hO htg 5 0 0 1 (fun _ => (x0.mi, x0.ti, 0)) _ J0 (by omega) (by omega) (Nat.le_refl _) (by decide) ⟨fun q q1 q2 => ⟨fun _ => 0, fun k hk => absurd hk (by omega), rfl, al _, x0e⟩, fun q q' q1 q2 q3 => by omega, fun f hf ha hn => ⟨0, by omega, by omega, x0e, Nat.zero_le _⟩⟩ (fun m hm h hh => ?_) ⟨⟨?_, ?_, fun k hk => ?_⟩, am_up_e, fun q hq => ⟨by show x0.mi ≤ 60; omega, hO.2.1, by show 0 < 4096; omega, ?_⟩, fun q k b1 b2 b3 => ?_, fun _ _ _ => rfl⟩
      · have : m = 0 := by omega
        subst this
        exact p0 h
      · rw [am_up_o (by omega), am_up_o (by omega), g _ _ (by omega)]; exact z6
      · rw [am_up_o (by omega), am_up_o (by omega), g _ _ (by omega)]; exact z7
      · rw [am_up_o (by omega), am_up_o (by omega), g _ _ (by omega)]; exact z8 k hk
      · rw [am_up_o (by omega), show q = 0 by omega, am_up_e]
        dsimp only [pkE]
        rw [Nat.zero_mul, Nat.zero_add]
      · rw [am_up_o (by omega), am_up_o (by omega), g _ _ b2]
end FND
theorem nt_i {C x : Nat} (hC : C < 2147483648) (hx : x ≤ 5) : (am_i (C : Int) >>> (am_i ((3 * x : Nat) : Int) &&& 31)) &&& am_i 7 = am_i ((C / 8 ^ x % 8 : Nat) : Int) := by
  have e7 : am_i 7 = am_i ((2 ^ 3 - 1 : Nat) : Int) := by decide
  rw [s_31 (by omega), s_shr hC (by omega), e7, s_2, Nat.pow_mul]
section PPLN
variable {L : Nat} {xs : Nat → Int32}
theorem p_plan (d : Nat) (a1 a2 a3 : Int32) : pr_I (vV restW L xs) (d + 8) 116 234 [(1, .int a1), (2, .int a2), (3, .int a3)] := by
  refine pW_I ?_
  intro I J R hV
  have hV0 := hV
  obtain ⟨⟨h1, h2, hx, hm, hmu⟩, ht, hr, hf, hp, hs, hd, hw⟩ := hV
  obtain ⟨c, last, nb, nr, nw, wd, sq, K, nt, wf, fm, h4, hc, hB, hN, hF, ⟨h, s, ⟨hh, e66, g0, hbt⟩, ⟨ek, gk, hkp⟩, hKh⟩, hA, hX⟩ := hw
  obtain ⟨b1, b2, b3, b4, b5, b6, b7, b8, i0, m0, i1, m1, i2, m2, i3, m3, i4, m4, i5, m5, mS, mT, hnt, hky, hwf⟩ := hB
  obtain ⟨z, z1, z2, rfl⟩ := i32_z a1
  obtain ⟨w, w1, w2, rfl⟩ := i32_z a2
  obtain ⟨k, k1, k2, rfl⟩ := i32_z a3
  have xB := fun d => e_xisBoat d (am_i z) nb c I J R hx h4 hc b3 i1
  have xM := fun d => e_isMile (d := d) (J := J) (z := w) hx h4 hc b2 i0 w1 w2
  have tz : (am_i z).toInt = z := am_i_toInt z1 z2
  have xB' : ∀ d, am_E (d + 1) 137 0 [(0, .ref 3), (1, .int (am_i z))] [] (I, J, R, 138) = some (some (.int (b01 (0 ≤ z ∧ z < nb))), (I, J, R, 138)) := fun d => by rw [xB d, tz]
  by_cases hq : (0 ≤ z ∧ z < nb) ∧ (last ≠ 0 ∧ 0 ≤ w ∧ w ≤ last) ∧ -1 ≤ k ∧ (s z.toNat).su = 0
  · obtain ⟨qz, qw, qk, qs⟩ := hq
    obtain ⟨b, rfl⟩ : ∃ n : Nat, z = n := ⟨z.toNat, by omega⟩
    obtain ⟨tg, rfl⟩ : ∃ n : Nat, w = n := ⟨w.toNat, by omega⟩
    rw [Int.toNat_natCast] at qs
    have hb : b < nb := by omega
    have hl0 := qw.1
    obtain ⟨n6, n1, n2⟩ := hnt b hb
    obtain ⟨hO, hb1, hb2⟩ := hbt b hb
    have hXx : cxX c last wd wf fm I := ⟨i0, b2, i4, b6, fun m hm => ⟨(hwf m hm).1, (hwf m hm).2.1⟩, fun f hf => ⟨(hF hl0 f hf).1, (hF hl0 f hf).2.2⟩⟩
    have hXm : cxM last wd nb nt wf fm I := ⟨m0, b2, m4, b6, m1, b3, fun b hb => ⟨(hnt b hb).1, (hnt b hb).2.2⟩, fun m hm => (hwf m hm).2.2, fun f hf => ⟨(hF hl0 f hf).2.1, (hF hl0 f hf).2.2⟩⟩
    have hRM : rwM nb nt last h s I := ⟨hh, g0, fun b hb => ⟨(hbt b hb).1, (hbt b hb).2.2⟩⟩
    have hnt6 : ∀ b, b < nb → nt b ≤ 6 := fun b hb => (hnt b hb).1
    have hR1 : rR R (am_up R 35 1 c) := rR_u (rR_r hmu) hc (Or.inl rfl)
    have hx1 := rR_x hR1 hx
    have hm1 := rR_m hR1 hm
    have h41 : am_up R 35 1 c 3 4 = c := h4
    have sl : ∀ d, am_E (d + 1) 144 0 [(0, .ref 3), (1, .int (am_i b)), (2, .int (am_i 3))] [] (I, J, R, 138) = some (some (.int (am_i 0)), (I, J, R, 138)) := fun d => by
      have := e_slot (d := d) (I := I) (J := J) (R := R) (b := (b : Int)) (k := 3) hx (by omega) (by omega) (by omega) (by omega)
      rw [Int.toNat_natCast] at this
      rw [this]
      have := hb1.2.2.2.1
      rw [qs] at this
      exact congrArg (fun v => some (some (Value.int v), (I, J, R, 138))) this
    have hfnd : ∀ I1 : tI, fr (hS 35) I I1 → hullR 35 I1 (nt b) (s b) → Wp (fndQ last (bwF last wf fm wd) (s b) tg (am_up R 35 1 c) I1 J) (am_E (d + 7) 64 0 [(0, .ref 49), (1, .ref 35), (2, .int (am_i wd)), (3, .int (am_i tg))] [] (I1, J, am_up R 35 1 c, 138)) := fun I1 hf1 hH => x_find hx1 hc am_up_e (cxX_c hc (fun q k a1 a2 => hf1 q k (hS_f.mpr (by omega))) hXx) hO qs (by omega) hH
    -- the answer is what the class finds
    obtain ⟨_, _, el, I1, rfl, rfl, hf1, hH⟩ := x_load (d := d + 6) (J := J) (s := s b) hx (Or.inl rfl) hc (by omega) n1 n6 hO.2.2.2.1 hb1
    obtain ⟨_, _, ef, I2, J2, N, g, rfl, rfl, f1, f2, hpl, f4⟩ := hfnd I1 hf1 hH
    have Nb : -1 ≤ N ∧ N ≤ 5 := by rcases hpl with ⟨e, -⟩ | ⟨n, e, e2, -⟩ <;> omega
    refine ⟨am_i (if k = -1 then N else if k < N then (g k.toNat : Int) else -1), ?_⟩
    have i41 : I1 c 4 = am_i wd := by rw [hf1 _ _ (hS_f.mpr (by omega))]; exact i4
    have cl : am_E (d + 8) 116 0 [(0, .ref 3), (1, .int (am_i b)), (2, .int (am_i tg)), (3, .int (am_i k))] [] (I, J, R, 138) = some (some (.int (am_i (if k = -1 then N else if k < N then (g k.toNat : Int) else -1))), (I2, J2, am_up R 35 1 c, 138)) := by
      rw [sg_X11_plan_0]
      by_cases q1 : k = -1
      · simp (disch := first | assumption | omega) only [rX hx, ly_csx, ly_cax, ly_cf, ly_kd, ly_ln, ↓Bool.cond_decide, cond_true, cond_false, ↓bI_p, ↓bV_p, ↓bL_p, bIJ_s, bVJ_s, bLJ_s, ↓am_let_s, Nat.blt, Nat.ble, Bool.and_true, Bool.true_and, Bool.and_self, Int.cast_ofNat_Int, am_i_add, am_i_sub, am_i_mul, am_ok_i, am_i_cl, n_lt, n_le, n_eq, n_lt0, n_le0, n_0lt, n_0le, n_eq0, ne_eq, ↓reduceIte, not_true_eq_false, not_false_eq_true, and_true, true_and, and_false, false_and, eq_T, eq_F, lt_T, lt_F, le_T, le_F, qn_T, qn_F, and_F, b01_T, b01_F, e_isIn, Int32.toInt_toInt64, am_i_toInt, am_l_toInt, Int.toNat_natCast, Int.reduceToNat, Int.reduceAdd, Int.reduceSub, Int.reduceMul, Int.reduceNeg, Nat.reduceAdd, Nat.reduceMul, Nat.add_zero, Nat.mul_zero, Nat.zero_add, am_zb0, am_zb1, h4, xB', b01_t qz, xM, b01_t qw, sl, el, rX hx1, h41, rC hx1 hc, i41, ef, q1, sg_X11_plan_81]
      · by_cases q2 : k < N
        · obtain ⟨n, rfl⟩ : ∃ n : Nat, N = n := ⟨N.toNat, by omega⟩
          obtain ⟨k', rfl⟩ : ∃ n : Nat, k = n := ⟨k.toNat, by omega⟩
          obtain ⟨u1, u2⟩ := f4 n rfl
          have dg : ∀ k, k < n → g k ≤ 7 := by
            rcases hpl with ⟨e, -⟩ | ⟨n', e, -, e3, -⟩
            · omega
            · have : n' = n := by omega
              subst this
              exact e3
          have cb := cd_b (f := g) n dg
          have p8 : 8 ^ n ≤ 32768 := by
            have : n = 0 ∨ n = 1 ∨ n = 2 ∨ n = 3 ∨ n = 4 ∨ n = 5 := by omega
            rcases this with rfl | rfl | rfl | rfl | rfl | rfl <;> decide
          have es : (3 : Int) * ((n : Int) - 1 - (k' : Int)) = ((3 * (n - 1 - k') : Nat) : Int) := by omega
          have nt' := nt_i (C := cdF 8 g n) (x := n - 1 - k') (by omega) (by omega)
          rw [cd_d n k' (by omega) dg] at nt'
          have na : ∀ d, am_E (d + 1) 65 0 [(0, .ref 49), (1, .int (am_i k'))] [] (I2, J2, am_up R 35 1 c, 138) = some (some (.int (am_i (g k'))), (I2, J2, am_up R 35 1 c, 138)) := fun d => by
            rw [sg_X8_noteAt_0]
            simp (disch := first | assumption | omega) only [rX hx, ly_csx, ly_cax, ly_cf, ly_kd, ly_ln, ↓Bool.cond_decide, cond_true, cond_false, ↓bI_p, ↓bV_p, ↓bL_p, bIJ_s, bVJ_s, bLJ_s, ↓am_let_s, Nat.blt, Nat.ble, Bool.and_true, Bool.true_and, Bool.and_self, Int.cast_ofNat_Int, am_i_add, am_i_sub, am_i_mul, am_ok_i, am_i_cl, n_lt, n_le, n_eq, n_lt0, n_le0, n_0lt, n_0le, n_eq0, ne_eq, ↓reduceIte, not_true_eq_false, not_false_eq_true, and_true, true_and, and_false, false_and, eq_T, eq_F, lt_T, lt_F, le_T, le_F, qn_T, qn_F, and_F, b01_T, b01_F, e_isIn, Int32.toInt_toInt64, am_i_toInt, am_l_toInt, Int.toNat_natCast, Int.reduceToNat, Int.reduceAdd, Int.reduceSub, Int.reduceMul, Int.reduceNeg, Nat.reduceAdd, Nat.reduceMul, Nat.add_zero, Nat.mul_zero, Nat.zero_add, am_zb0, am_zb1, u1, u2, es, nt']
          simp (disch := first | assumption | omega) only [rX hx, ly_csx, ly_cax, ly_cf, ly_kd, ly_ln, ↓Bool.cond_decide, cond_true, cond_false, ↓bI_p, ↓bV_p, ↓bL_p, bIJ_s, bVJ_s, bLJ_s, ↓am_let_s, Nat.blt, Nat.ble, Bool.and_true, Bool.true_and, Bool.and_self, Int.cast_ofNat_Int, am_i_add, am_i_sub, am_i_mul, am_ok_i, am_i_cl, n_lt, n_le, n_eq, n_lt0, n_le0, n_0lt, n_0le, n_eq0, ne_eq, ↓reduceIte, not_true_eq_false, not_false_eq_true, and_true, true_and, and_false, false_and, eq_T, eq_F, lt_T, lt_F, le_T, le_F, qn_T, qn_F, and_F, b01_T, b01_F, e_isIn, Int32.toInt_toInt64, am_i_toInt, am_l_toInt, Int.toNat_natCast, Int.reduceToNat, Int.reduceAdd, Int.reduceSub, Int.reduceMul, Int.reduceNeg, Nat.reduceAdd, Nat.reduceMul, Nat.add_zero, Nat.mul_zero, Nat.zero_add, am_zb0, am_zb1, h4, xB', b01_t qz, xM, b01_t qw, sl, el, rX hx1, h41, rC hx1 hc, i41, ef, na]
        · by_cases q3 : N = -1
          · simp (disch := first | assumption | omega) only [rX hx, ly_csx, ly_cax, ly_cf, ly_kd, ly_ln, ↓Bool.cond_decide, cond_true, cond_false, ↓bI_p, ↓bV_p, ↓bL_p, bIJ_s, bVJ_s, bLJ_s, ↓am_let_s, Nat.blt, Nat.ble, Bool.and_true, Bool.true_and, Bool.and_self, Int.cast_ofNat_Int, am_i_add, am_i_sub, am_i_mul, am_ok_i, am_i_cl, n_lt, n_le, n_eq, n_lt0, n_le0, n_0lt, n_0le, n_eq0, ne_eq, ↓reduceIte, not_true_eq_false, not_false_eq_true, and_true, true_and, and_false, false_and, eq_T, eq_F, lt_T, lt_F, le_T, le_F, qn_T, qn_F, and_F, b01_T, b01_F, e_isIn, Int32.toInt_toInt64, am_i_toInt, am_l_toInt, Int.toNat_natCast, Int.reduceToNat, Int.reduceAdd, Int.reduceSub, Int.reduceMul, Int.reduceNeg, Nat.reduceAdd, Nat.reduceMul, Nat.add_zero, Nat.mul_zero, Nat.zero_add, am_zb0, am_zb1, h4, xB', b01_t qz, xM, b01_t qw, sl, el, rX hx1, h41, rC hx1 hc, i41, ef, q3, sg_X11_plan_81]
          · simp (disch := first | assumption | omega) only [rX hx, ly_csx, ly_cax, ly_cf, ly_kd, ly_ln, ↓Bool.cond_decide, cond_true, cond_false, ↓bI_p, ↓bV_p, ↓bL_p, bIJ_s, bVJ_s, bLJ_s, ↓am_let_s, Nat.blt, Nat.ble, Bool.and_true, Bool.true_and, Bool.and_self, Int.cast_ofNat_Int, am_i_add, am_i_sub, am_i_mul, am_ok_i, am_i_cl, n_lt, n_le, n_eq, n_lt0, n_le0, n_0lt, n_0le, n_eq0, ne_eq, ↓reduceIte, not_true_eq_false, not_false_eq_true, and_true, true_and, and_false, false_and, eq_T, eq_F, lt_T, lt_F, le_T, le_F, qn_T, qn_F, and_F, b01_T, b01_F, e_isIn, Int32.toInt_toInt64, am_i_toInt, am_l_toInt, Int.toNat_natCast, Int.reduceToNat, Int.reduceAdd, Int.reduceSub, Int.reduceMul, Int.reduceNeg, Nat.reduceAdd, Nat.reduceMul, Nat.add_zero, Nat.mul_zero, Nat.zero_add, am_zb0, am_zb1, h4, xB', b01_t qz, xM, b01_t qw, sl, el, rX hx1, h41, rC hx1 hc, i41, ef]
    have g2 : ∀ q k, ¬ sC q k → I2 q k = I q k := fun q k e => by
      unfold sC at e
      rw [f1 q k (by omega) (by omega) (by omega), hf1 q k (hS_f.mpr (by omega))]
    refine Wp_e cl (Wp_r ⟨I2, J2, _, rfl, rfl, funext (fun k => g2 1 k (by unfold sC; omega)), rfl, ?_⟩)
    have hXm2 : cxM last wd nb nt wf fm I2 := cxM_c (fun q k a1 a2 => g2 q k (by unfold sC; omega)) hXm
    have mB := fun d => e_misBoat d (am_i b) nb I2 J2 (am_up R 35 1 c) hm1 b3 hXm2.2.2.2.2.1
    have mB' : ∀ d, am_E (d + 2) 194 0 [(0, .ref 64), (1, .int (am_i b))] [] (I2, J2, am_up R 35 1 c, 138) = some (some (.int (am_i 1)), (I2, J2, am_up R 35 1 c, 138)) := fun d => by rw [mB d, b01_t (by rw [tz]; exact qz)]
    have e93 := hXm2.1
    have y4 : I2 103 (4 + 11 * b) = am_i ((0 : Nat) : Int) := by
      rw [g2 _ _ (by unfold sC; omega)]
      have := (bX_i.mp hb2).2.2.2.1
      rw [qs] at this
      exact this
    have su := fun d => e_isSunk (d := d) (I := I2) (J := J2) (R := am_up R 35 1 c) (b := (b : Int)) (v := 0) hm1 (by omega) (by omega) (by rw [Int.toNat_natCast]; exact y4) (by omega)
    have su' : ∀ d, am_E (d + 1) 198 0 [(0, .ref 64), (1, .int (am_i b))] [] (I2, J2, am_up R 35 1 c, 138) = some (some (.int (am_i 0)), (I2, J2, am_up R 35 1 c, 138)) := su
    rw [sg_X12_plan_0]
    simp (disch := first | assumption | omega) only [rM hm, ly_csm, ly_cam, ly_cf, ly_kd, ly_ln, ↓Bool.cond_decide, cond_true, cond_false, ↓bI_p, ↓bV_p, ↓bL_p, bIJ_s, bVJ_s, bLJ_s, ↓am_let_s, Nat.blt, Nat.ble, Bool.and_true, Bool.true_and, Bool.and_self, Int.cast_ofNat_Int, rM hm1, am_i_add, am_i_sub, am_i_mul, am_ok_i, am_i_cl, n_lt, n_le, n_eq, n_lt0, n_le0, n_0lt, n_0le, n_eq0, ne_eq, ↓reduceIte, not_true_eq_false, not_false_eq_true, and_true, true_and, and_false, false_and, eq_T, eq_F, lt_T, lt_F, le_T, le_F, qn_T, qn_F, and_F, b01_T, b01_F, e_isIn, Int32.toInt_toInt64, am_i_toInt, am_l_toInt, Int.toNat_natCast, Int.reduceToNat, Int.reduceAdd, Int.reduceSub, Int.reduceMul, Int.reduceNeg, Nat.reduceAdd, Nat.reduceMul, Nat.add_zero, Nat.mul_zero, Nat.zero_add, am_zb0, am_zb1, mB', e93, su']
    refine Wp_V (m_aside2 hm1) ?_
    rintro _ _ ⟨I3, rfl, rfl, ht3, e3, e3'⟩
    refine ⟨rfl, ?_⟩
    simp (disch := first | assumption | omega) only [rM hm, ly_csm, ly_cam, ly_cf, ly_kd, ly_ln, ↓Bool.cond_decide, cond_true, cond_false, ↓bI_p, ↓bV_p, ↓bL_p, bIJ_s, bVJ_s, bLJ_s, ↓am_let_s, Nat.blt, Nat.ble, Bool.and_true, Bool.true_and, Bool.and_self, Int.cast_ofNat_Int, am_i_add, am_i_sub, am_i_mul, am_ok_i, am_i_cl, n_lt, n_le, n_eq, n_lt0, n_le0, n_0lt, n_0le, n_eq0, ne_eq, ↓reduceIte, not_true_eq_false, not_false_eq_true, and_true, true_and, and_false, false_and, eq_T, eq_F, lt_T, lt_F, le_T, le_F, qn_T, qn_F, and_F, b01_T, b01_F, e_isIn, Int32.toInt_toInt64, am_i_toInt, am_l_toInt, Int.toNat_natCast, Int.reduceToNat, Int.reduceAdd, Int.reduceSub, Int.reduceMul, Int.reduceNeg, Nat.reduceAdd, Nat.reduceMul, Nat.add_zero, Nat.mul_zero, Nat.zero_add, am_zb0, am_zb1, sg_X12_planOf_0]
    have hB0 : bX (I2 103) (1 + 11 * b) (nt b) (s b) := by
      have := n6
      obtain ⟨y0, y1, y2, y3, y4, y5⟩ := hb2
      exact ⟨by rw [g2 _ _ (by unfold sC; omega)]; exact y0, by rw [g2 _ _ (by unfold sC; omega)]; exact y1, by rw [g2 _ _ (by unfold sC; omega)]; exact y2, by rw [g2 _ _ (by unfold sC; omega)]; exact y3, by rw [g2 _ _ (by unfold sC; omega)]; exact y4, fun k hk => by rw [g2 _ _ (by unfold sC; omega)]; exact y5 k hk⟩
    refine Wp_I (m_po2 (d := d) (R := am_up R 35 1 c) (I0 := I2) (tg := tg) hm1 hXm2 hb (by omega) hB0 hO J2 6 0 I3 J2 (by omega) (frJ_r _) ht3 e3 (fun m hm => absurd hm (by omega))) ?_
    rintro _ _ ⟨I4, J4, N', g', rfl, rfl, hj, ht4, -, hpl', hrow⟩
    refine ⟨_, rfl, ?_⟩
    obtain ⟨eN, eg⟩ := plR_u hpl hpl'
    subst eN
    simp (disch := first | assumption | omega) only [rM hm, ly_csm, ly_cam, ly_cf, ly_kd, ly_ln, ↓Bool.cond_decide, cond_true, cond_false, ↓bI_p, ↓bV_p, ↓bL_p, bIJ_s, bVJ_s, bLJ_s, ↓am_let_s, Nat.blt, Nat.ble, Bool.and_true, Bool.true_and, Bool.and_self, Int.cast_ofNat_Int, am_i_add, am_i_sub, am_i_mul, am_ok_i, am_i_cl, n_lt, n_le, n_eq, n_lt0, n_le0, n_0lt, n_0le, n_eq0, ne_eq, ↓reduceIte, not_true_eq_false, not_false_eq_true, and_true, true_and, and_false, false_and, eq_T, eq_F, lt_T, lt_F, le_T, le_F, qn_T, qn_F, and_F, b01_T, b01_F, e_isIn, Int32.toInt_toInt64, am_i_toInt, am_l_toInt, Int.toNat_natCast, Int.reduceToNat, Int.reduceAdd, Int.reduceSub, Int.reduceMul, Int.reduceNeg, Nat.reduceAdd, Nat.reduceMul, Nat.add_zero, Nat.mul_zero, Nat.zero_add, am_zb0, am_zb1]
    refine Wp_V (m_back2 hm1 ht4 (by rw [g2 _ _ (by unfold sC; omega)]; exact mT)) ?_
    rintro _ _ ⟨I5, rfl, rfl, e5, e5'⟩
    refine ⟨rfl, ?_⟩
    have V5 : vV restW L xs I5 J4 (am_up R 35 1 c) := vV_s hV0 (fun q k e => by rw [e5 q k e, g2 q k e]) (fun q k e1 e2 => by rw [hj q k e1, f2 q k e2]) hR1
    by_cases q1 : k = -1
    · simp (disch := first | assumption | omega) only [rM hm, ly_csm, ly_cam, ly_cf, ly_kd, ly_ln, ↓Bool.cond_decide, cond_true, cond_false, ↓bI_p, ↓bV_p, ↓bL_p, bIJ_s, bVJ_s, bLJ_s, ↓am_let_s, Nat.blt, Nat.ble, Bool.and_true, Bool.true_and, Bool.and_self, Int.cast_ofNat_Int, am_i_add, am_i_sub, am_i_mul, am_ok_i, am_i_cl, n_lt, n_le, n_eq, n_lt0, n_le0, n_0lt, n_0le, n_eq0, ne_eq, ↓reduceIte, not_true_eq_false, not_false_eq_true, and_true, true_and, and_false, false_and, eq_T, eq_F, lt_T, lt_F, le_T, le_F, qn_T, qn_F, and_F, b01_T, b01_F, e_isIn, Int32.toInt_toInt64, am_i_toInt, am_l_toInt, Int.toNat_natCast, Int.reduceToNat, Int.reduceAdd, Int.reduceSub, Int.reduceMul, Int.reduceNeg, Nat.reduceAdd, Nat.reduceMul, Nat.add_zero, Nat.mul_zero, Nat.zero_add, am_zb0, am_zb1]
      exact Wp_r ⟨I5, J4, _, by rw [if_pos q1], rfl, V5⟩
    · by_cases q2 : k < N
      · obtain ⟨n, rfl⟩ : ∃ n : Nat, N = n := ⟨N.toNat, by omega⟩
        obtain ⟨k', rfl⟩ : ∃ n : Nat, k = n := ⟨k.toNat, by omega⟩
        have r7 : I5 107 k' = am_i (g k') := by
          rw [e5' _ _ (by omega) (by omega), hrow k' q2, eg n rfl k' (by omega)]
        simp (disch := first | assumption | omega) only [rM hm, ly_csm, ly_cam, ly_cf, ly_kd, ly_ln, ↓Bool.cond_decide, cond_true, cond_false, ↓bI_p, ↓bV_p, ↓bL_p, bIJ_s, bVJ_s, bLJ_s, ↓am_let_s, Nat.blt, Nat.ble, Bool.and_true, Bool.true_and, Bool.and_self, Int.cast_ofNat_Int, rM hm1, am_i_add, am_i_sub, am_i_mul, am_ok_i, am_i_cl, n_lt, n_le, n_eq, n_lt0, n_le0, n_0lt, n_0le, n_eq0, ne_eq, ↓reduceIte, not_true_eq_false, not_false_eq_true, and_true, true_and, and_false, false_and, eq_T, eq_F, lt_T, lt_F, le_T, le_F, qn_T, qn_F, and_F, b01_T, b01_F, e_isIn, Int32.toInt_toInt64, am_i_toInt, am_l_toInt, Int.toNat_natCast, Int.reduceToNat, Int.reduceAdd, Int.reduceSub, Int.reduceMul, Int.reduceNeg, Nat.reduceAdd, Nat.reduceMul, Nat.add_zero, Nat.mul_zero, Nat.zero_add, am_zb0, am_zb1, r7]
        exact Wp_r ⟨I5, J4, _, by rw [if_neg q1, if_pos q2], rfl, V5⟩
      · simp (disch := first | assumption | omega) only [rM hm, ly_csm, ly_cam, ly_cf, ly_kd, ly_ln, ↓Bool.cond_decide, cond_true, cond_false, ↓bI_p, ↓bV_p, ↓bL_p, bIJ_s, bVJ_s, bLJ_s, ↓am_let_s, Nat.blt, Nat.ble, Bool.and_true, Bool.true_and, Bool.and_self, Int.cast_ofNat_Int, am_i_add, am_i_sub, am_i_mul, am_ok_i, am_i_cl, n_lt, n_le, n_eq, n_lt0, n_le0, n_0lt, n_0le, n_eq0, ne_eq, ↓reduceIte, not_true_eq_false, not_false_eq_true, and_true, true_and, and_false, false_and, eq_T, eq_F, lt_T, lt_F, le_T, le_F, qn_T, qn_F, and_F, b01_T, b01_F, e_isIn, Int32.toInt_toInt64, am_i_toInt, am_l_toInt, Int.toNat_natCast, Int.reduceToNat, Int.reduceAdd, Int.reduceSub, Int.reduceMul, Int.reduceNeg, Nat.reduceAdd, Nat.reduceMul, Nat.add_zero, Nat.mul_zero, Nat.zero_add, am_zb0, am_zb1]
        exact Wp_r ⟨I5, J4, _, by rw [if_neg q1, if_neg q2], rfl, V5⟩
  · refine ⟨am_i (-1), ?_⟩
    have mB := fun d => e_misBoat d (am_i z) nb I J R hm b3 m1
    have mB' : ∀ d, am_E (d + 2) 194 0 [(0, .ref 64), (1, .int (am_i z))] [] (I, J, R, 138) = some (some (.int (b01 (0 ≤ z ∧ z < nb))), (I, J, R, 138)) := fun d => by rw [mB d, tz]
    by_cases qz : 0 ≤ z ∧ z < nb
    · obtain ⟨b, rfl⟩ : ∃ n : Nat, z = n := ⟨z.toNat, by omega⟩
      rw [Int.toNat_natCast] at hq
      have hb : b < nb := by omega
      have hl0 : last ≠ 0 := fun e => by have := (b8 e).1; omega
      obtain ⟨hO, hb1, hb2⟩ := hbt b hb
      have sl : ∀ d, am_E (d + 1) 144 0 [(0, .ref 3), (1, .int (am_i b)), (2, .int (am_i 3))] [] (I, J, R, 138) = some (some (.int (am_i (s b).su)), (I, J, R, 138)) := fun d => by
        have := e_slot (d := d) (I := I) (J := J) (R := R) (b := (b : Int)) (k := 3) hx (by omega) (by omega) (by omega) (by omega)
        rw [Int.toNat_natCast] at this
        rw [this]
        exact congrArg (fun v => some (some (Value.int v), (I, J, R, 138))) hb1.2.2.2.1
      have su := fun d => e_isSunk (d := d) (I := I) (J := J) (R := R) (b := (b : Int)) (v := (s b).su) hm (by omega) (by omega) (by rw [Int.toNat_natCast]; exact (bX_i.mp hb2).2.2.2.1) hO.2.2.2.1
      have s1 := hO.2.2.2.1
      by_cases qw : last ≠ 0 ∧ 0 ≤ w ∧ w ≤ last
      · have cl : am_E (d + 8) 116 0 [(0, .ref 3), (1, .int (am_i b)), (2, .int (am_i w)), (3, .int (am_i k))] [] (I, J, R, 138) = some (some (.int (am_i (-1))), (I, J, R, 138)) := by
          rw [sg_X11_plan_0]
          by_cases qk : k < -1
          · simp (disch := first | assumption | omega) only [rX hx, ly_csx, ly_cax, ly_cf, ly_kd, ly_ln, ↓Bool.cond_decide, cond_true, cond_false, ↓bI_p, ↓bV_p, ↓bL_p, bIJ_s, bVJ_s, bLJ_s, ↓am_let_s, Nat.blt, Nat.ble, Bool.and_true, Bool.true_and, Bool.and_self, Int.cast_ofNat_Int, am_i_add, am_i_sub, am_i_mul, am_ok_i, am_i_cl, n_lt, n_le, n_eq, n_lt0, n_le0, n_0lt, n_0le, n_eq0, ne_eq, ↓reduceIte, not_true_eq_false, not_false_eq_true, and_true, true_and, and_false, false_and, eq_T, eq_F, lt_T, lt_F, le_T, le_F, qn_T, qn_F, and_F, b01_T, b01_F, e_isIn, Int32.toInt_toInt64, am_i_toInt, am_l_toInt, Int.toNat_natCast, Int.reduceToNat, Int.reduceAdd, Int.reduceSub, Int.reduceMul, Int.reduceNeg, Nat.reduceAdd, Nat.reduceMul, Nat.add_zero, Nat.mul_zero, Nat.zero_add, am_zb0, am_zb1, xB', b01_t qz, xM, b01_t qw, sg_X11_plan_31]
          · have s1' : (s b).su = 1 := by
              by_cases c : (s b).su = 0
              · exact absurd ⟨qz, qw, by omega, c⟩ hq
              · omega
            simp (disch := first | assumption | omega) only [rX hx, ly_csx, ly_cax, ly_cf, ly_kd, ly_ln, ↓Bool.cond_decide, cond_true, cond_false, ↓bI_p, ↓bV_p, ↓bL_p, bIJ_s, bVJ_s, bLJ_s, ↓am_let_s, Nat.blt, Nat.ble, Bool.and_true, Bool.true_and, Bool.and_self, Int.cast_ofNat_Int, am_i_add, am_i_sub, am_i_mul, am_ok_i, am_i_cl, n_lt, n_le, n_eq, n_lt0, n_le0, n_0lt, n_0le, n_eq0, ne_eq, ↓reduceIte, not_true_eq_false, not_false_eq_true, and_true, true_and, and_false, false_and, eq_T, eq_F, lt_T, lt_F, le_T, le_F, qn_T, qn_F, and_F, b01_T, b01_F, e_isIn, Int32.toInt_toInt64, am_i_toInt, am_l_toInt, Int.toNat_natCast, Int.reduceToNat, Int.reduceAdd, Int.reduceSub, Int.reduceMul, Int.reduceNeg, Nat.reduceAdd, Nat.reduceMul, Nat.add_zero, Nat.mul_zero, Nat.zero_add, am_zb0, am_zb1, xB', b01_t qz, xM, b01_t qw, sl, s1', sg_X11_plan_31]
        refine Wp_e cl (Wp_r ⟨I, J, R, rfl, rfl, rfl, rfl, ?_⟩)
        have cm : am_E (d + 8) 234 0 [(0, .ref 64), (1, .int (am_i b)), (2, .int (am_i w)), (3, .int (am_i k))] [] (I, J, R, 138) = some (some (.int (am_i (-1))), (I, J, R, 138)) := by
          obtain ⟨qw1, qw2, qw3⟩ := qw
          rw [sg_X12_plan_0]
          by_cases c : (s b).su = 0
          · have qk : k < -1 := by
              by_cases c2 : k < -1
              · exact c2
              · exact absurd ⟨qz, ⟨qw1, qw2, qw3⟩, by omega, c⟩ hq
            rw [c] at su
            have su' : ∀ d, am_E (d + 1) 198 0 [(0, .ref 64), (1, .int (am_i b))] [] (I, J, R, 138) = some (some (.int (am_i 0)), (I, J, R, 138)) := su
            simp (disch := first | assumption | omega) only [rM hm, ly_csm, ly_cam, ly_cf, ly_kd, ly_ln, ↓Bool.cond_decide, cond_true, cond_false, ↓bI_p, ↓bV_p, ↓bL_p, bIJ_s, bVJ_s, bLJ_s, ↓am_let_s, Nat.blt, Nat.ble, Bool.and_true, Bool.true_and, Bool.and_self, Int.cast_ofNat_Int, am_i_add, am_i_sub, am_i_mul, am_ok_i, am_i_cl, n_lt, n_le, n_eq, n_lt0, n_le0, n_0lt, n_0le, n_eq0, ne_eq, ↓reduceIte, not_true_eq_false, not_false_eq_true, and_true, true_and, and_false, false_and, eq_T, eq_F, lt_T, lt_F, le_T, le_F, qn_T, qn_F, and_F, b01_T, b01_F, e_isIn, Int32.toInt_toInt64, am_i_toInt, am_l_toInt, Int.toNat_natCast, Int.reduceToNat, Int.reduceAdd, Int.reduceSub, Int.reduceMul, Int.reduceNeg, Nat.reduceAdd, Nat.reduceMul, Nat.add_zero, Nat.mul_zero, Nat.zero_add, am_zb0, am_zb1, mB', b01_t qz, m0, su', sg_X12_plan_37]
          · simp (disch := first | assumption | omega) only [rM hm, ly_csm, ly_cam, ly_cf, ly_kd, ly_ln, ↓Bool.cond_decide, cond_true, cond_false, ↓bI_p, ↓bV_p, ↓bL_p, bIJ_s, bVJ_s, bLJ_s, ↓am_let_s, Nat.blt, Nat.ble, Bool.and_true, Bool.true_and, Bool.and_self, Int.cast_ofNat_Int, am_i_add, am_i_sub, am_i_mul, am_ok_i, am_i_cl, n_lt, n_le, n_eq, n_lt0, n_le0, n_0lt, n_0le, n_eq0, ne_eq, ↓reduceIte, not_true_eq_false, not_false_eq_true, and_true, true_and, and_false, false_and, eq_T, eq_F, lt_T, lt_F, le_T, le_F, qn_T, qn_F, and_F, b01_T, b01_F, e_isIn, Int32.toInt_toInt64, am_i_toInt, am_l_toInt, Int.toNat_natCast, Int.reduceToNat, Int.reduceAdd, Int.reduceSub, Int.reduceMul, Int.reduceNeg, Nat.reduceAdd, Nat.reduceMul, Nat.add_zero, Nat.mul_zero, Nat.zero_add, am_zb0, am_zb1, mB', b01_t qz, m0, su, sg_X12_plan_37]
        exact Wp_e cm (Wp_r ⟨I, J, R, rfl, rfl, hV0⟩)
      · have cl : am_E (d + 8) 116 0 [(0, .ref 3), (1, .int (am_i b)), (2, .int (am_i w)), (3, .int (am_i k))] [] (I, J, R, 138) = some (some (.int (am_i (-1))), (I, J, R, 138)) := by
          rw [sg_X11_plan_0]
          simp (disch := first | assumption | omega) only [rX hx, ly_csx, ly_cax, ly_cf, ly_kd, ly_ln, ↓Bool.cond_decide, cond_true, cond_false, ↓bI_p, ↓bV_p, ↓bL_p, bIJ_s, bVJ_s, bLJ_s, ↓am_let_s, Nat.blt, Nat.ble, Bool.and_true, Bool.true_and, Bool.and_self, Int.cast_ofNat_Int, am_i_add, am_i_sub, am_i_mul, am_ok_i, am_i_cl, n_lt, n_le, n_eq, n_lt0, n_le0, n_0lt, n_0le, n_eq0, ne_eq, ↓reduceIte, not_true_eq_false, not_false_eq_true, and_true, true_and, and_false, false_and, eq_T, eq_F, lt_T, lt_F, le_T, le_F, qn_T, qn_F, and_F, b01_T, b01_F, e_isIn, Int32.toInt_toInt64, am_i_toInt, am_l_toInt, Int.toNat_natCast, Int.reduceToNat, Int.reduceAdd, Int.reduceSub, Int.reduceMul, Int.reduceNeg, Nat.reduceAdd, Nat.reduceMul, Nat.add_zero, Nat.mul_zero, Nat.zero_add, am_zb0, am_zb1, xB', b01_t qz, xM, b01_f qw, sg_X11_plan_31]
        refine Wp_e cl (Wp_r ⟨I, J, R, rfl, rfl, rfl, rfl, ?_⟩)
        have qw' : ¬ (0 ≤ w ∧ w ≤ (last : Int)) := fun e => qw ⟨hl0, e⟩
        have cm : am_E (d + 8) 234 0 [(0, .ref 64), (1, .int (am_i b)), (2, .int (am_i w)), (3, .int (am_i k))] [] (I, J, R, 138) = some (some (.int (am_i (-1))), (I, J, R, 138)) := by
          rw [sg_X12_plan_0]
          simp (disch := first | assumption | omega) only [rM hm, ly_csm, ly_cam, ly_cf, ly_kd, ly_ln, ↓Bool.cond_decide, cond_true, cond_false, ↓bI_p, ↓bV_p, ↓bL_p, bIJ_s, bVJ_s, bLJ_s, ↓am_let_s, Nat.blt, Nat.ble, Bool.and_true, Bool.true_and, Bool.and_self, Int.cast_ofNat_Int, am_i_add, am_i_sub, am_i_mul, am_ok_i, am_i_cl, n_lt, n_le, n_eq, n_lt0, n_le0, n_0lt, n_0le, n_eq0, ne_eq, ↓reduceIte, not_true_eq_false, not_false_eq_true, and_true, true_and, and_false, false_and, eq_T, eq_F, lt_T, lt_F, le_T, le_F, qn_T, qn_F, and_F, b01_T, b01_F, e_isIn, Int32.toInt_toInt64, am_i_toInt, am_l_toInt, Int.toNat_natCast, Int.reduceToNat, Int.reduceAdd, Int.reduceSub, Int.reduceMul, Int.reduceNeg, Nat.reduceAdd, Nat.reduceMul, Nat.add_zero, Nat.mul_zero, Nat.zero_add, am_zb0, am_zb1, mB', b01_t qz, m0, sg_X12_plan_37]
        exact Wp_e cm (Wp_r ⟨I, J, R, rfl, rfl, hV0⟩)
    · have cl : am_E (d + 8) 116 0 [(0, .ref 3), (1, .int (am_i z)), (2, .int (am_i w)), (3, .int (am_i k))] [] (I, J, R, 138) = some (some (.int (am_i (-1))), (I, J, R, 138)) := by
        rw [sg_X11_plan_0]
        simp (disch := first | assumption | omega) only [rX hx, ly_csx, ly_cax, ly_cf, ly_kd, ly_ln, ↓Bool.cond_decide, cond_true, cond_false, ↓bI_p, ↓bV_p, ↓bL_p, bIJ_s, bVJ_s, bLJ_s, ↓am_let_s, Nat.blt, Nat.ble, Bool.and_true, Bool.true_and, Bool.and_self, Int.cast_ofNat_Int, am_i_add, am_i_sub, am_i_mul, am_ok_i, am_i_cl, n_lt, n_le, n_eq, n_lt0, n_le0, n_0lt, n_0le, n_eq0, ne_eq, ↓reduceIte, not_true_eq_false, not_false_eq_true, and_true, true_and, and_false, false_and, eq_T, eq_F, lt_T, lt_F, le_T, le_F, qn_T, qn_F, and_F, b01_T, b01_F, e_isIn, Int32.toInt_toInt64, am_i_toInt, am_l_toInt, Int.toNat_natCast, Int.reduceToNat, Int.reduceAdd, Int.reduceSub, Int.reduceMul, Int.reduceNeg, Nat.reduceAdd, Nat.reduceMul, Nat.add_zero, Nat.mul_zero, Nat.zero_add, am_zb0, am_zb1, xB', b01_f qz, sg_X11_plan_31]
      refine Wp_e cl (Wp_r ⟨I, J, R, rfl, rfl, rfl, rfl, ?_⟩)
      have cm : am_E (d + 8) 234 0 [(0, .ref 64), (1, .int (am_i z)), (2, .int (am_i w)), (3, .int (am_i k))] [] (I, J, R, 138) = some (some (.int (am_i (-1))), (I, J, R, 138)) := by
        rw [sg_X12_plan_0]
        simp (disch := first | assumption | omega) only [rM hm, ly_csm, ly_cam, ly_cf, ly_kd, ly_ln, ↓Bool.cond_decide, cond_true, cond_false, ↓bI_p, ↓bV_p, ↓bL_p, bIJ_s, bVJ_s, bLJ_s, ↓am_let_s, Nat.blt, Nat.ble, Bool.and_true, Bool.true_and, Bool.and_self, Int.cast_ofNat_Int, am_i_add, am_i_sub, am_i_mul, am_ok_i, am_i_cl, n_lt, n_le, n_eq, n_lt0, n_le0, n_0lt, n_0le, n_eq0, ne_eq, ↓reduceIte, not_true_eq_false, not_false_eq_true, and_true, true_and, and_false, false_and, eq_T, eq_F, lt_T, lt_F, le_T, le_F, qn_T, qn_F, and_F, b01_T, b01_F, e_isIn, Int32.toInt_toInt64, am_i_toInt, am_l_toInt, Int.toNat_natCast, Int.reduceToNat, Int.reduceAdd, Int.reduceSub, Int.reduceMul, Int.reduceNeg, Nat.reduceAdd, Nat.reduceMul, Nat.add_zero, Nat.mul_zero, Nat.zero_add, am_zb0, am_zb1, mB', b01_f qz, sg_X12_plan_37]
      exact Wp_e cm (Wp_r ⟨I, J, R, rfl, rfl, hV0⟩)
end PPLN
