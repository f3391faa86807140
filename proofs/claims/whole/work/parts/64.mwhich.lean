/-! ===== which, the reference ===== -/
section MWHICH
variable {d : Nat} {R : tR} {last wd nb : Nat} {nt wf : Nat → Nat} {fm : Nat → List tok}
theorem m_back2 {I0 I : tI} {J : tJ} (hm : st_Rm R) (ht : thM I0 I) (h0 : I0 64 58 = am_i 0) : Wp (fun r M => ∃ I', r = none ∧ M = (I', J, R, 138) ∧ (∀ q k, ¬ sC q k → I' q k = I0 q k) ∧ ∀ q k, q ≠ 103 → ¬ (q = 64 ∧ k = 58) → I' q k = I q k) (am_E (d + 2) 214 0 [(0, .ref 64)] [] (I, J, R, 138)) := by
  rw [sg_X12_takesBack_0]
  simp (disch := first | assumption | omega) only [rM hm, ly_csm, ly_cam, ly_cf, ly_kd, ly_ln, ↓Bool.cond_decide, cond_true, cond_false, ↓bI_p, ↓bV_p, ↓bL_p, bIJ_s, bVJ_s, bLJ_s, ↓am_let_s, Nat.blt, Nat.ble, Bool.and_true, Bool.true_and, Bool.and_self, Int.cast_ofNat_Int]
  refine Wp_V (m_anew hm ht) ?_
  rintro _ _ ⟨I', rfl, rfl, ⟨h1, h2, h3, h4⟩, e, e'⟩
  refine ⟨rfl, ?_⟩
  simp (disch := first | assumption | omega) only [rM hm, ly_csm, ly_cam, ly_cf, ly_kd, ly_ln, ↓Bool.cond_decide, cond_true, cond_false, ↓bI_p, ↓bV_p, ↓bL_p, bIJ_s, bVJ_s, bLJ_s, ↓am_let_s, Nat.blt, Nat.ble, Bool.and_true, Bool.true_and, Bool.and_self, Int.cast_ofNat_Int, am_i_add, am_i_sub, am_i_mul, am_ok_i, am_i_cl, n_lt, n_le, n_eq, n_lt0, n_le0, n_0lt, n_0le, n_eq0, ne_eq, ↓reduceIte, not_true_eq_false, not_false_eq_true, and_true, true_and, and_false, false_and, eq_T, eq_F, lt_T, lt_F, le_T, le_F, qn_T, qn_F, and_F, b01_T, b01_F, e_isIn, Int32.toInt_toInt64, am_i_toInt, am_l_toInt, Int.toNat_natCast, Int.reduceToNat, Int.reduceAdd, Int.reduceSub, Int.reduceMul, Int.reduceNeg, Nat.reduceAdd, Nat.reduceMul, Nat.add_zero, Nat.mul_zero, Nat.zero_add, am_zb0, am_zb1]
  refine Wp_r ⟨_, rfl, rfl, fun q k a => ?_, fun q k a b => by rw [am_up_o b, e' q k a]⟩
  by_cases c : q = 64 ∧ k = 58
  · rw [c.1, c.2, am_up_e, h0]
  · rw [am_up_o c]
    by_cases b : q = 103
    · rw [b]; exact e k
    · exact h4 q k a b c
theorem m_aside2 {I : tI} {J : tJ} (hm : st_Rm R) : Wp (fun r M => ∃ I', r = none ∧ M = (I', J, R, 138) ∧ thM I I' ∧ (∀ k, I' 103 k = I 103 k) ∧ ∀ q k, q ≠ 104 → ¬ (q = 64 ∧ k = 58) → I' q k = I q k) (am_E (d + 1) 212 0 [(0, .ref 64)] [] (I, J, R, 138)) := by
  obtain ⟨I', g1, g2, g3⟩ := m_as7 (d := d) (J := J) (R := R) hm 67 0 (am_up I 64 58 (am_i 1)) (by omega)
  have g1' : am_E (d + 1) 212 7 [(0, .ref 64), (1, .int (am_i 0))] [] (am_up I 64 58 (am_i 1), J, R, 138) = some (none, (I', J, R, 138)) := g1
  rw [sg_X12_putsAside_0]
  simp (disch := first | assumption | omega) only [rM hm, ly_csm, ly_cam, ly_cf, ly_kd, ly_ln, ↓Bool.cond_decide, cond_true, cond_false, ↓bI_p, ↓bV_p, ↓bL_p, bIJ_s, bVJ_s, bLJ_s, ↓am_let_s, Nat.blt, Nat.ble, Bool.and_true, Bool.true_and, Bool.and_self, Int.cast_ofNat_Int, am_i_add, am_i_sub, am_i_mul, am_ok_i, am_i_cl, n_lt, n_le, n_eq, n_lt0, n_le0, n_0lt, n_0le, n_eq0, ne_eq, ↓reduceIte, not_true_eq_false, not_false_eq_true, and_true, true_and, and_false, false_and, eq_T, eq_F, lt_T, lt_F, le_T, le_F, qn_T, qn_F, and_F, b01_T, b01_F, e_isIn, Int32.toInt_toInt64, am_i_toInt, am_l_toInt, Int.toNat_natCast, Int.reduceToNat, Int.reduceAdd, Int.reduceSub, Int.reduceMul, Int.reduceNeg, Nat.reduceAdd, Nat.reduceMul, Nat.add_zero, Nat.mul_zero, Nat.zero_add, am_zb0, am_zb1, g1']
  refine Wp_r ⟨I', rfl, rfl, ⟨?_, fun k hk => ?_, fun k hk => ?_, fun q k a b c => ?_⟩, fun k => ?_, fun q k a b => ?_⟩
  · rw [g2 _ _ (by omega), am_up_e]
  · rw [g3 k (by omega) hk, am_up_o (by omega)]
  · rw [g2 _ _ (by omega), am_up_o (by omega)]
  · rw [g2 q k (by unfold sC at a; omega), am_up_o c]
  · rw [g2 _ _ (by omega), am_up_o (by omega)]
  · rw [g2 q k (by omega), am_up_o b]
theorem e_many {I : tI} {J : tJ} (hm : st_Rm R) (h94 : I 94 3 = am_i nb) : am_E (d + 1) 192 0 [(0, .ref 64)] [] (I, J, R, 138) = some (some (.int (am_i nb)), (I, J, R, 138)) := by
  rw [sg_X12_boatMany_0]
  simp (disch := first | assumption | omega) only [rM hm, ly_csm, ly_cam, ly_cf, ly_kd, ly_ln, ↓Bool.cond_decide, cond_true, cond_false, ↓bI_p, ↓bV_p, ↓bL_p, bIJ_s, bVJ_s, bLJ_s, ↓am_let_s, Nat.blt, Nat.ble, Bool.and_true, Bool.true_and, Bool.and_self, Int.cast_ofNat_Int, am_i_add, am_i_sub, am_i_mul, am_ok_i, am_i_cl, n_lt, n_le, n_eq, n_lt0, n_le0, n_0lt, n_0le, n_eq0, ne_eq, ↓reduceIte, not_true_eq_false, not_false_eq_true, and_true, true_and, and_false, false_and, eq_T, eq_F, lt_T, lt_F, le_T, le_F, qn_T, qn_F, and_F, b01_T, b01_F, e_isIn, Int32.toInt_toInt64, am_i_toInt, am_l_toInt, Int.toNat_natCast, Int.reduceToNat, Int.reduceAdd, Int.reduceSub, Int.reduceMul, Int.reduceNeg, Nat.reduceAdd, Nat.reduceMul, Nat.add_zero, Nat.mul_zero, Nat.zero_add, am_zb0, am_zb1, h94]
theorem m_l42 {I0 : tI} {J : tJ} {k : Nat} (hm : st_Rm R) (h6 : nb ≤ 6) (hk : k ≤ 30) (h94 : I0 94 3 = am_i nb) (h66 : I0 64 66 = am_i k) : ∀ (m i : Nat) (I : tI), i + m = nb → (∀ q j, q ≠ 109 → I q j = I0 q j) → ∃ I', am_E (d + 2) 242 42 [(0, .ref 64), (1, .int (am_i i))] [] (I, J, R, 138) = am_E (d + 2) 242 9 [(0, .ref 64)] [] (am_up I' 64 66 (am_i (k + 1 : Nat)), J, R, 138) ∧ (∀ q j, q ≠ 109 → I' q j = I0 q j) ∧ (∀ b, i ≤ b → b < nb → I' 109 (31 * b + k) = I0 106 b) ∧ ∀ j, (∀ b, i ≤ b → b < nb → j ≠ 31 * b + k) → I' 109 j = I 109 j
  | 0, i, I, hi, hI => by
    have eM := fun d => e_many (d := d) (I := I) (J := J) (nb := nb) hm (by rw [hI _ _ (by omega)]; exact h94)
    have e66 : I 64 66 = am_i k := by rw [hI _ _ (by omega)]; exact h66
    refine ⟨I, ?_, hI, fun b b1 b2 => absurd b2 (by omega), fun _ _ => rfl⟩
    rw [sg_X12_laysHeard_42]
    simp (disch := first | assumption | omega) only [rM hm, ly_csm, ly_cam, ly_cf, ly_kd, ly_ln, ↓Bool.cond_decide, cond_true, cond_false, ↓bI_p, ↓bV_p, ↓bL_p, bIJ_s, bVJ_s, bLJ_s, ↓am_let_s, Nat.blt, Nat.ble, Bool.and_true, Bool.true_and, Bool.and_self, Int.cast_ofNat_Int, am_i_add, am_i_sub, am_i_mul, am_ok_i, am_i_cl, n_lt, n_le, n_eq, n_lt0, n_le0, n_0lt, n_0le, n_eq0, ne_eq, ↓reduceIte, not_true_eq_false, not_false_eq_true, and_true, true_and, and_false, false_and, eq_T, eq_F, lt_T, lt_F, le_T, le_F, qn_T, qn_F, and_F, b01_T, b01_F, e_isIn, Int32.toInt_toInt64, am_i_toInt, am_l_toInt, Int.toNat_natCast, Int.reduceToNat, Int.reduceAdd, Int.reduceSub, Int.reduceMul, Int.reduceNeg, Nat.reduceAdd, Nat.reduceMul, Nat.add_zero, Nat.mul_zero, Nat.zero_add, am_zb0, am_zb1, eM, e66, am_i_s]
  | m + 1, i, I, hi, hI => by
    have eM := fun d => e_many (d := d) (I := I) (J := J) (nb := nb) hm (by rw [hI _ _ (by omega)]; exact h94)
    have e66 : I 64 66 = am_i k := by rw [hI _ _ (by omega)]; exact h66
    have ei : ((31 : Int) * (i : Int) + (k : Int)).toNat = 31 * i + k := by omega
    obtain ⟨I', q1, q2, q3, q4⟩ := m_l42 hm h6 hk h94 h66 m (i + 1) (am_up I 109 (31 * i + k) (I 106 i)) (by omega) (fun q j e => by rw [am_up_o (by omega), hI q j e])
    refine ⟨I', ?_, q2, fun b b1 b2 => ?_, fun j hj => ?_⟩
    · rw [← q1, sg_X12_laysHeard_42]
      simp (disch := first | assumption | omega) only [rM hm, ly_csm, ly_cam, ly_cf, ly_kd, ly_ln, ↓Bool.cond_decide, cond_true, cond_false, ↓bI_p, ↓bV_p, ↓bL_p, bIJ_s, bVJ_s, bLJ_s, ↓am_let_s, Nat.blt, Nat.ble, Bool.and_true, Bool.true_and, Bool.and_self, Int.cast_ofNat_Int, am_i_add, am_i_sub, am_i_mul, am_ok_i, am_i_cl, n_lt, n_le, n_eq, n_lt0, n_le0, n_0lt, n_0le, n_eq0, ne_eq, ↓reduceIte, not_true_eq_false, not_false_eq_true, and_true, true_and, and_false, false_and, eq_T, eq_F, lt_T, lt_F, le_T, le_F, qn_T, qn_F, and_F, b01_T, b01_F, e_isIn, Int32.toInt_toInt64, am_i_toInt, am_l_toInt, Int.toNat_natCast, Int.reduceToNat, Int.reduceAdd, Int.reduceSub, Int.reduceMul, Int.reduceNeg, Nat.reduceAdd, Nat.reduceMul, Nat.add_zero, Nat.mul_zero, Nat.zero_add, am_zb0, am_zb1, eM, e66, ei, am_i_s]
    · by_cases e : b = i
      · subst e
        rw [q4 _ (fun b' c1 c2 => by omega), am_up_e, hI _ _ (by omega)]
      · exact q3 b (by omega) b2
    · rw [q4 j (fun b c1 c2 => hj b (by omega) c2), am_up_o (fun e => hj i (Nat.le_refl _) (by omega) e.2)]
theorem m_l9 {I0 : tI} (hm : st_Rm R) (hX : cxM last wd nb nt wf fm I0) (h58 : I0 64 58 = am_i 0) : ∀ (m k h : Nat) (s : Nat → bt) (I : tI) (J : tJ), m = min (31 - k) (999 - h) → k ≤ 31 → I 64 66 = am_i k → thM I0 I → rwM nb nt last h s I → Wp (fun r M => ∃ I' J', r = none ∧ M = (I', J', R, 138) ∧ frJ J J' ∧ (∀ q j, ¬ sC q j → I' q j = I0 q j) ∧ I' 64 66 = am_i (k + m : Nat) ∧ (∀ b, b < nb → ∀ j, j < m → I' 109 (31 * b + k + j) = am_i (hdS last wf fm wd (nt b) j (s b))) ∧ ∀ j, (∀ b, b < nb → ¬ (31 * b + k ≤ j ∧ j < 31 * b + k + m)) → I' 109 j = I 109 j) (am_E (d + 8) 242 9 [(0, .ref 64)] [] (I, J, R, 138))
  | 0, k, h, s, I, J, hm0, hk, h66, ht, hB => by
    obtain ⟨hh, h0, hr⟩ := hB
    have fin : Wp (fun r M => ∃ I' J', r = none ∧ M = (I', J', R, 138) ∧ frJ J J' ∧ (∀ q j, ¬ sC q j → I' q j = I0 q j) ∧ I' 64 66 = am_i (k + 0 : Nat) ∧ (∀ b, b < nb → ∀ j, j < 0 → I' 109 (31 * b + k + j) = am_i (hdS last wf fm wd (nt b) j (s b))) ∧ ∀ j, (∀ b, b < nb → ¬ (31 * b + k ≤ j ∧ j < 31 * b + k + 0)) → I' 109 j = I 109 j) (am_E (d + 8) 242 89 [(0, .ref 64)] [] (I, J, R, 138)) := by
      rw [sg_X12_laysHeard_89]
      simp (disch := first | assumption | omega) only [↓Bool.cond_decide, cond_true, cond_false, ↓am_let_s, ↓bI_p, bIJ_s, ↓bV_p, bVJ_s, ↓bL_p, bLJ_s, ly_cf, Bool.and_self, Bool.and_true]
      refine Wp_V (m_back2 hm ht h58) ?_
      rintro _ _ ⟨I', rfl, rfl, e1, e2⟩
      exact ⟨rfl, Wp_r ⟨I', J, rfl, rfl, frJ_r _, e1, by rw [e2 _ _ (by omega) (by omega)]; exact h66, fun b _ j hj => absurd hj (by omega), fun j _ => e2 _ _ (by omega) (by omega)⟩⟩
    rw [sg_X12_laysHeard_9]
    by_cases q : 30 < k
    · simp (disch := first | assumption | omega) only [rM hm, ly_csm, ly_cam, ly_cf, ly_kd, ly_ln, ↓Bool.cond_decide, cond_true, cond_false, ↓bI_p, ↓bV_p, ↓bL_p, bIJ_s, bVJ_s, bLJ_s, ↓am_let_s, Nat.blt, Nat.ble, Bool.and_true, Bool.true_and, Bool.and_self, Int.cast_ofNat_Int, am_i_add, am_i_sub, am_i_mul, am_ok_i, am_i_cl, n_lt, n_le, n_eq, n_lt0, n_le0, n_0lt, n_0le, n_eq0, ne_eq, ↓reduceIte, not_true_eq_false, not_false_eq_true, and_true, true_and, and_false, false_and, eq_T, eq_F, lt_T, lt_F, le_T, le_F, qn_T, qn_F, and_F, b01_T, b01_F, e_isIn, Int32.toInt_toInt64, am_i_toInt, am_l_toInt, Int.toNat_natCast, Int.reduceToNat, Int.reduceAdd, Int.reduceSub, Int.reduceMul, Int.reduceNeg, Nat.reduceAdd, Nat.reduceMul, Nat.add_zero, Nat.mul_zero, Nat.zero_add, am_zb0, am_zb1, h66]
      exact fin
    · simp (disch := first | assumption | omega) only [rM hm, ly_csm, ly_cam, ly_cf, ly_kd, ly_ln, ↓Bool.cond_decide, cond_true, cond_false, ↓bI_p, ↓bV_p, ↓bL_p, bIJ_s, bVJ_s, bLJ_s, ↓am_let_s, Nat.blt, Nat.ble, Bool.and_true, Bool.true_and, Bool.and_self, Int.cast_ofNat_Int, am_i_add, am_i_sub, am_i_mul, am_ok_i, am_i_cl, n_lt, n_le, n_eq, n_lt0, n_le0, n_0lt, n_0le, n_eq0, ne_eq, ↓reduceIte, not_true_eq_false, not_false_eq_true, and_true, true_and, and_false, false_and, eq_T, eq_F, lt_T, lt_F, le_T, le_F, qn_T, qn_F, and_F, b01_T, b01_F, e_isIn, Int32.toInt_toInt64, am_i_toInt, am_l_toInt, Int.toNat_natCast, Int.reduceToNat, Int.reduceAdd, Int.reduceSub, Int.reduceMul, Int.reduceNeg, Nat.reduceAdd, Nat.reduceMul, Nat.add_zero, Nat.mul_zero, Nat.zero_add, am_zb0, am_zb1, h66, h0]
      exact fin
  | m + 1, k, h, s, I, J, hm0, hk, h66, ht, hB => by
    have h6 := hX.2.2.2.2.2.1
    have h0 := hB.2.1
    have hh := hB.1
    have e4 : I 93 4 = am_i wd := by rw [ht.2.2.2 _ _ (by unfold sC; omega) (by omega) (by omega)]; exact hX.2.2.1
    rw [sg_X12_laysHeard_9]
    simp (disch := first | assumption | omega) only [rM hm, ly_csm, ly_cam, ly_cf, ly_kd, ly_ln, ↓Bool.cond_decide, cond_true, cond_false, ↓bI_p, ↓bV_p, ↓bL_p, bIJ_s, bVJ_s, bLJ_s, ↓am_let_s, Nat.blt, Nat.ble, Bool.and_true, Bool.true_and, Bool.and_self, Int.cast_ofNat_Int, am_i_add, am_i_sub, am_i_mul, am_ok_i, am_i_cl, n_lt, n_le, n_eq, n_lt0, n_le0, n_0lt, n_0le, n_eq0, ne_eq, ↓reduceIte, not_true_eq_false, not_false_eq_true, and_true, true_and, and_false, false_and, eq_T, eq_F, lt_T, lt_F, le_T, le_F, qn_T, qn_F, and_F, b01_T, b01_F, e_isIn, Int32.toInt_toInt64, am_i_toInt, am_l_toInt, Int.toNat_natCast, Int.reduceToNat, Int.reduceAdd, Int.reduceSub, Int.reduceMul, Int.reduceNeg, Nat.reduceAdd, Nat.reduceMul, Nat.add_zero, Nat.mul_zero, Nat.zero_add, am_zb0, am_zb1, h66, h0, e4]
    refine Wp_V (m_thour hm hX.2.2.2.1 hX (by omega) ht hB) ?_
    rintro _ _ ⟨I1, J1, rfl, rfl, g1, g2, g3, g4, g5, g6⟩
    refine ⟨rfl, ?_⟩
    have e94 : I1 94 3 = am_i nb := by rw [g2.2.2.2 _ _ (by unfold sC; omega) (by omega) (by omega)]; exact hX.2.2.2.2.1
    have e66 : I1 64 66 = am_i k := by rw [g6 _ _ (by unfold mHc; omega)]; exact h66
    obtain ⟨I2, q1, q2, q3, q4⟩ := m_l42 (d := d + 6) (J := J1) (k := k) hm h6 (by omega) e94 e66 nb 0 I1 (by omega) (fun _ _ _ => rfl)
    have q1' : am_E (d + 8) 242 42 [(0, .ref 64), (1, .int (am_i 0))] [] (I1, J1, R, 138) = _ := q1
    have ht2 : thM I0 (am_up I2 64 66 (am_i ((k + 1 : Nat) : Int))) := by
      obtain ⟨t1, t2, t3, t4⟩ := g2
      exact ⟨by rw [am_up_o (by omega), q2 _ _ (by omega)]; exact t1, fun k hk => by rw [am_up_o (by omega), q2 _ _ (by omega)]; exact t2 k hk, fun k hk => by rw [am_up_o (by omega), q2 _ _ (by omega)]; exact t3 k hk, fun q k a b c => by rw [am_up_o (by unfold sC at a; omega), q2 _ _ (by unfold sC at a; omega)]; exact t4 q k a b c⟩
    have hr2 : rwM nb nt last (h + 1) (hrS last wf fm nt wd s) (am_up I2 64 66 (am_i ((k + 1 : Nat) : Int))) := rwM_c g3 h6 (fun b hb => (hX.2.2.2.2.2.2.1 b hb).1) (fun j _ => by rw [am_up_o (by omega), q2 _ _ (by omega)])
    refine Wp_e q1' (Wp_m (m_l9 hm hX h58 m (k + 1) (h + 1) _ _ J1 (by omega) (by omega) am_up_e ht2 hr2) ?_)
    rintro _ _ ⟨I3, J3, rfl, rfl, p1, p2, p3, p4, p5⟩
    have low : ∀ b, b < nb → I3 109 (31 * b + k) = am_i (noS last (nt b) (s b)) := fun b hb => by
      rw [p5 _ (fun b' c1 => by omega), am_up_o (by omega), q3 b (by omega) hb, g4 b hb]
    refine ⟨I3, J3, rfl, rfl, frJ_t g1 p1, p2, by rw [p3, show k + 1 + m = k + (m + 1) by omega], fun b hb j hj => ?_, fun j hj => ?_⟩
    · cases j with
      | zero => exact low b hb
      | succ j =>
        rw [show 31 * b + k + (j + 1) = 31 * b + (k + 1) + j by omega]
        exact p4 b hb j (by omega)
    · rw [p5 j (fun b hb => by have := hj b hb; omega), am_up_o (by omega), q4 j (fun b _ hb => by have := hj b hb; omega), g6 _ _ (by unfold mHc; omega)]
theorem m_lays {I : tI} {J : tJ} {s : Nat → bt} {h : Nat} (hm : st_Rm R) (hX : cxM last wd nb nt wf fm I) (h58 : I 64 58 = am_i 0) (hB : rwM nb nt last h s I) : Wp (fun r M => ∃ I' J', r = none ∧ M = (I', J', R, 138) ∧ frJ J J' ∧ (∀ q j, ¬ sC q j → I' q j = I q j) ∧ I' 64 66 = am_i (min 31 (999 - h) : Nat) ∧ ∀ b, b < nb → ∀ j, j < min 31 (999 - h) → I' 109 (31 * b + j) = am_i (hdS last wf fm wd (nt b) j (s b))) (am_E (d + 9) 242 0 [(0, .ref 64)] [] (I, J, R, 138)) := by
  rw [sg_X12_laysHeard_0]
  simp (disch := first | assumption | omega) only [↓Bool.cond_decide, cond_true, cond_false, ↓am_let_s, ↓bI_p, bIJ_s, ↓bV_p, bVJ_s, ↓bL_p, bLJ_s, ly_cf, Bool.and_self, Bool.and_true]
  refine Wp_V (m_aside2 hm) ?_
  rintro _ _ ⟨I1, rfl, rfl, ht, e1, e2⟩
  refine ⟨rfl, ?_⟩
  have g0 : ∀ q k, ¬ (q = 64 ∧ k = 66) → am_up I 64 66 (am_i 0) q k = I q k := fun q k e => am_up_o e
  have hX1 : cxM last wd nb nt wf fm (am_up I 64 66 (am_i 0)) := cxM_c (fun q k a1 a2 => g0 q k (by omega)) hX
  have h66 : I1 64 66 = am_i 0 := by rw [e2 _ _ (by omega) (by omega), am_up_e]
  have lp := m_l9 (d := d + 1) (I0 := am_up I 64 66 (am_i 0)) hm hX1 (by rw [g0 _ _ (by omega)]; exact h58) (min 31 (999 - h)) 0 h s I1 J (by omega) (by omega) h66 ht (rwM_c hB hX.2.2.2.2.2.1 (fun b hb => (hX.2.2.2.2.2.2.1 b hb).1) (fun k _ => by rw [e1, g0 _ _ (by omega)]))
  refine Wp_m lp ?_
  rintro _ _ ⟨I2, J2, rfl, rfl, p1, p2, p3, p4, -⟩
  refine ⟨I2, J2, rfl, rfl, p1, fun q j e => ?_, by rw [p3, Nat.zero_add], fun b hb j hj => ?_⟩
  · rw [p2 q j e, g0 q j (fun x => e (by rw [x.1, x.2]; unfold sC; omega))]
  · have := p4 b hb j hj
    rw [Nat.add_zero] at this
    exact this
theorem m_seen {I : tI} {J : tJ} {n H b : Nat} {U V : Nat → Nat} {hd : Nat → Nat} (hm : st_Rm R) (hn : n ≤ 16) (hH : H ≤ 31) (hb : b < 6) (e1 : I 64 63 = am_i n) (e66 : I 64 66 = am_i H) (hUV : ∀ r, r < n → U r ≤ 30 ∧ V r ≤ 8 ∧ I 108 (2 * r) = am_i (U r) ∧ I 108 (2 * r + 1) = am_i (V r)) (hh : ∀ j, j < H → hd j ≤ 8 ∧ I 109 (31 * b + j) = am_i (hd j)) : ∀ (m r : Nat), r + m = n → am_E (d + 1) 243 2 [(0, .ref 64), (1, .int (am_i b)), (2, .int (am_i r))] [] (I, J, R, 138) = some (some (.int (b01 (fiR H U V hd m r = true))), (I, J, R, 138))
  | 0, r, hr => by
    rw [sg_X12_isAsSeen_2, b01_t (show fiR H U V hd 0 r = true from rfl)]
    simp (disch := first | assumption | omega) only [rM hm, ly_csm, ly_cam, ly_cf, ly_kd, ly_ln, ↓Bool.cond_decide, cond_true, cond_false, ↓bI_p, ↓bV_p, ↓bL_p, bIJ_s, bVJ_s, bLJ_s, ↓am_let_s, Nat.blt, Nat.ble, Bool.and_true, Bool.true_and, Bool.and_self, Int.cast_ofNat_Int, am_i_add, am_i_sub, am_i_mul, am_ok_i, am_i_cl, n_lt, n_le, n_eq, n_lt0, n_le0, n_0lt, n_0le, n_eq0, ne_eq, ↓reduceIte, not_true_eq_false, not_false_eq_true, and_true, true_and, and_false, false_and, eq_T, eq_F, lt_T, lt_F, le_T, le_F, qn_T, qn_F, and_F, b01_T, b01_F, e_isIn, Int32.toInt_toInt64, am_i_toInt, am_l_toInt, Int.toNat_natCast, Int.reduceToNat, Int.reduceAdd, Int.reduceSub, Int.reduceMul, Int.reduceNeg, Nat.reduceAdd, Nat.reduceMul, Nat.add_zero, Nat.mul_zero, Nat.zero_add, am_zb0, am_zb1, e1]
  | m + 1, r, hr => by
    obtain ⟨u1, v1, u2, v2⟩ := hUV r (by omega)
    have n1 : ((2 : Int) * (r : Int)).toNat = 2 * r := by omega
    have n2 : ((2 : Int) * (r : Int) + 1).toNat = 2 * r + 1 := by omega
    have n3 : ((31 : Int) * (b : Int) + (U r : Int)).toNat = 31 * b + U r := by omega
    have ih := m_seen (J := J) hm hn hH hb e1 e66 hUV hh m (r + 1) (by omega)
    rw [sg_X12_isAsSeen_2]
    by_cases q : U r < H
    · obtain ⟨h8, h59⟩ := hh (U r) q
      by_cases q2 : hd (U r) = V r
      · rw [show fiR H U V hd (m + 1) r = fiR H U V hd m (r + 1) from if_pos ⟨q, q2⟩]
        simp (disch := first | assumption | omega) only [rM hm, ly_csm, ly_cam, ly_cf, ly_kd, ly_ln, ↓Bool.cond_decide, cond_true, cond_false, ↓bI_p, ↓bV_p, ↓bL_p, bIJ_s, bVJ_s, bLJ_s, ↓am_let_s, Nat.blt, Nat.ble, Bool.and_true, Bool.true_and, Bool.and_self, Int.cast_ofNat_Int, am_i_add, am_i_sub, am_i_mul, am_ok_i, am_i_cl, n_lt, n_le, n_eq, n_lt0, n_le0, n_0lt, n_0le, n_eq0, ne_eq, ↓reduceIte, not_true_eq_false, not_false_eq_true, and_true, true_and, and_false, false_and, eq_T, eq_F, lt_T, lt_F, le_T, le_F, qn_T, qn_F, and_F, b01_T, b01_F, e_isIn, Int32.toInt_toInt64, am_i_toInt, am_l_toInt, Int.toNat_natCast, Int.reduceToNat, Int.reduceAdd, Int.reduceSub, Int.reduceMul, Int.reduceNeg, Nat.reduceAdd, Nat.reduceMul, Nat.add_zero, Nat.mul_zero, Nat.zero_add, am_zb0, am_zb1, e1, e66, n1, n2, u2, n3, h59, v2, am_i_s, ih]
      · rw [show fiR H U V hd (m + 1) r = false from if_neg (fun e => q2 e.2), b01_f (by decide)]
        simp (disch := first | assumption | omega) only [rM hm, ly_csm, ly_cam, ly_cf, ly_kd, ly_ln, ↓Bool.cond_decide, cond_true, cond_false, ↓bI_p, ↓bV_p, ↓bL_p, bIJ_s, bVJ_s, bLJ_s, ↓am_let_s, Nat.blt, Nat.ble, Bool.and_true, Bool.true_and, Bool.and_self, Int.cast_ofNat_Int, am_i_add, am_i_sub, am_i_mul, am_ok_i, am_i_cl, n_lt, n_le, n_eq, n_lt0, n_le0, n_0lt, n_0le, n_eq0, ne_eq, ↓reduceIte, not_true_eq_false, not_false_eq_true, and_true, true_and, and_false, false_and, eq_T, eq_F, lt_T, lt_F, le_T, le_F, qn_T, qn_F, and_F, b01_T, b01_F, e_isIn, Int32.toInt_toInt64, am_i_toInt, am_l_toInt, Int.toNat_natCast, Int.reduceToNat, Int.reduceAdd, Int.reduceSub, Int.reduceMul, Int.reduceNeg, Nat.reduceAdd, Nat.reduceMul, Nat.add_zero, Nat.mul_zero, Nat.zero_add, am_zb0, am_zb1, e1, e66, n1, n2, u2, n3, h59, v2, sg_X12_isAsSeen_56]
    · rw [show fiR H U V hd (m + 1) r = false from if_neg (fun e => q e.1), b01_f (by decide)]
      simp (disch := first | assumption | omega) only [rM hm, ly_csm, ly_cam, ly_cf, ly_kd, ly_ln, ↓Bool.cond_decide, cond_true, cond_false, ↓bI_p, ↓bV_p, ↓bL_p, bIJ_s, bVJ_s, bLJ_s, ↓am_let_s, Nat.blt, Nat.ble, Bool.and_true, Bool.true_and, Bool.and_self, Int.cast_ofNat_Int, am_i_add, am_i_sub, am_i_mul, am_ok_i, am_i_cl, n_lt, n_le, n_eq, n_lt0, n_le0, n_0lt, n_0le, n_eq0, ne_eq, ↓reduceIte, not_true_eq_false, not_false_eq_true, and_true, true_and, and_false, false_and, eq_T, eq_F, lt_T, lt_F, le_T, le_F, qn_T, qn_F, and_F, b01_T, b01_F, e_isIn, Int32.toInt_toInt64, am_i_toInt, am_l_toInt, Int.toNat_natCast, Int.reduceToNat, Int.reduceAdd, Int.reduceSub, Int.reduceMul, Int.reduceNeg, Nat.reduceAdd, Nat.reduceMul, Nat.add_zero, Nat.mul_zero, Nat.zero_add, am_zb0, am_zb1, e1, e66, n1, u2, sg_X12_isAsSeen_56]
theorem m_set {I : tI} {J : tJ} {p : Nat → Bool} (hm : st_Rm R) (h6 : nb ≤ 6) (h94 : I 94 3 = am_i nb) (hp : ∀ d b, b < nb → am_E (d + 1) 243 2 [(0, .ref 64), (1, .int (am_i b)), (2, .int (am_i 0))] [] (I, J, R, 138) = some (some (.int (b01 (p b = true))), (I, J, R, 138))) : ∀ (m i a : Nat), i + m = nb → a < 64 → am_E (d + 2) 244 8 [(0, .ref 64), (1, .int (am_i a)), (2, .int (am_i i))] [] (I, J, R, 138) = some (some (.int (am_i (fiS p m i a : Nat))), (I, J, R, 138))
  | 0, i, a, hi, ha => by
    have eM := fun d => e_many (d := d) (I := I) (J := J) (nb := nb) hm h94
    rw [sg_X12_seenSet_8]
    simp (disch := first | assumption | omega) only [am_i_add, am_i_sub, am_i_mul, am_ok_i, am_i_cl, n_lt, n_le, n_eq, n_lt0, n_le0, n_0lt, n_0le, n_eq0, ne_eq, ↓reduceIte, not_true_eq_false, not_false_eq_true, and_true, true_and, and_false, false_and, eq_T, eq_F, lt_T, lt_F, le_T, le_F, qn_T, qn_F, and_F, b01_T, b01_F, e_isIn, Int32.toInt_toInt64, am_i_toInt, am_l_toInt, Int.toNat_natCast, Int.reduceToNat, Int.reduceAdd, Int.reduceSub, Int.reduceMul, Int.reduceNeg, Nat.reduceAdd, Nat.reduceMul, Nat.add_zero, Nat.mul_zero, Nat.zero_add, am_zb0, am_zb1, ↓Bool.cond_decide, cond_true, cond_false, ↓am_let_s, ↓bI_p, bIJ_s, ↓bV_p, bVJ_s, ↓bL_p, bLJ_s, ly_cf, Bool.and_self, Bool.and_true, eM, fiS]
  | m + 1, i, a, hi, ha => by
    have eM := fun d => e_many (d := d) (I := I) (J := J) (nb := nb) hm h94
    obtain ⟨o1, o2⟩ := or_b (a := a) (i := i) (by omega) ha
    have hpi := fun d => hp d i (by omega)
    rw [sg_X12_seenSet_8]
    by_cases q : p i = true
    · have ih := m_set hm h6 h94 hp m (i + 1) (a ||| 2 ^ i) (by omega) o2
      simp (disch := first | assumption | omega) only [am_i_add, am_i_sub, am_i_mul, am_ok_i, am_i_cl, n_lt, n_le, n_eq, n_lt0, n_le0, n_0lt, n_0le, n_eq0, ne_eq, ↓reduceIte, not_true_eq_false, not_false_eq_true, and_true, true_and, and_false, false_and, eq_T, eq_F, lt_T, lt_F, le_T, le_F, qn_T, qn_F, and_F, b01_T, b01_F, e_isIn, Int32.toInt_toInt64, am_i_toInt, am_l_toInt, Int.toNat_natCast, Int.reduceToNat, Int.reduceAdd, Int.reduceSub, Int.reduceMul, Int.reduceNeg, Nat.reduceAdd, Nat.reduceMul, Nat.add_zero, Nat.mul_zero, Nat.zero_add, am_zb0, am_zb1, ↓Bool.cond_decide, cond_true, cond_false, ↓am_let_s, ↓bI_p, bIJ_s, ↓bV_p, bVJ_s, ↓bL_p, bLJ_s, ly_cf, Bool.and_self, Bool.and_true, eM, sg_X12_isAsSeen_0, hpi, b01_t q, o1, sg_X12_seenSet_30, am_i_s, ih, fiS, q]
    · have ih := m_set hm h6 h94 hp m (i + 1) a (by omega) ha
      simp (disch := first | assumption | omega) only [am_i_add, am_i_sub, am_i_mul, am_ok_i, am_i_cl, n_lt, n_le, n_eq, n_lt0, n_le0, n_0lt, n_0le, n_eq0, ne_eq, ↓reduceIte, not_true_eq_false, not_false_eq_true, and_true, true_and, and_false, false_and, eq_T, eq_F, lt_T, lt_F, le_T, le_F, qn_T, qn_F, and_F, b01_T, b01_F, e_isIn, Int32.toInt_toInt64, am_i_toInt, am_l_toInt, Int.toNat_natCast, Int.reduceToNat, Int.reduceAdd, Int.reduceSub, Int.reduceMul, Int.reduceNeg, Nat.reduceAdd, Nat.reduceMul, Nat.add_zero, Nat.mul_zero, Nat.zero_add, am_zb0, am_zb1, ↓Bool.cond_decide, cond_true, cond_false, ↓am_let_s, ↓bI_p, bIJ_s, ↓bV_p, bVJ_s, ↓bL_p, bLJ_s, ly_cf, Bool.and_self, Bool.and_true, eM, sg_X12_isAsSeen_0, hpi, b01_f q, sg_X12_seenSet_30, am_i_s, ih, fiS, if_neg q]
end MWHICH
theorem seen_UV {I : tI} (h : vSeen I) : ∃ (n : Nat) (U V : Nat → Nat), n ≤ 16 ∧ I 57 1 = am_i n ∧ I 64 63 = am_i n ∧ ∀ r, r < n → U r ≤ 30 ∧ V r ≤ 8 ∧ I 58 (2 * r) = am_i (U r) ∧ I 58 (2 * r + 1) = am_i (V r) ∧ I 108 (2 * r) = am_i (U r) ∧ I 108 (2 * r + 1) = am_i (V r) := by
  obtain ⟨n, h1, h2, h3, h4⟩ := h
  have h4' : ∀ k, ∃ uv : Nat × Nat, k < n → uv.1 ≤ 30 ∧ uv.2 ≤ 8 ∧ I 58 (2 * k) = am_i uv.1 ∧ I 58 (2 * k + 1) = am_i uv.2 ∧ I 108 (2 * k) = am_i uv.1 ∧ I 108 (2 * k + 1) = am_i uv.2 := fun k => by
    by_cases q : k < n
    · obtain ⟨u, v, x⟩ := h4 k q
      exact ⟨(u, v), fun _ => x⟩
    · exact ⟨(0, 0), fun e => absurd e q⟩
  obtain ⟨F, hF⟩ := Classical.axiomOfChoice h4'
  exact ⟨n, fun k => (F k).1, fun k => (F k).2, h1, h2, h3, hF⟩
theorem hdS_b {last : Nat} {wf : Nat → Nat} {fm : Nat → List tok} {u n : Nat} : ∀ (k : Nat) {x : bt}, bOK last n x → hdS last wf fm u n k x ≤ 8
  | 0, x, h => by
    show noS last n x ≤ 8
    unfold noS
    split
    · next o =>
      have := h.2.2.2.2.2.2 x.pl (by have := h.2.2.2.2.1; have := o.1; omega)
      omega
    · omega
  | k + 1, _, h => hdS_b k (paS_ok h)
section PWHI
variable {L : Nat} {xs : Nat → Int32}
theorem p_which (d : Nat) : pr_I (vV restW L xs) (d + 11) 121 245 [] := by
  refine pW_I ?_
  intro I J R hV
  have hV0 := hV
  obtain ⟨⟨h1, h2, hx, hm, hmu⟩, ht, hr, hf, hp, hs, hd, hw⟩ := hV
  obtain ⟨c, last, nb, nr, nw, wd, sq, K, nt, wf, fm, h4, hc, hB, hN, hF, ⟨h, s, ⟨hh, e66, g0, hbt⟩, ⟨ek, gk, hkp⟩, hKh⟩, hA, hX⟩ := hw
  obtain ⟨b1, b2, b3, b4, b5, b6, b7, b8, i0, m0, i1, m1, i2, m2, i3, m3, i4, m4, i5, m5, mS, mT, hnt, hky, hwf⟩ := hB
  obtain ⟨n, U, V, hn, s1, s2, hUV⟩ := seen_UV hs
  have hXx : last ≠ 0 → cxX c last wd wf fm I := fun hl0 => ⟨i0, b2, i4, b6, fun m hm => ⟨(hwf m hm).1, (hwf m hm).2.1⟩, fun f hf => ⟨(hF hl0 f hf).1, (hF hl0 f hf).2.2⟩⟩
  refine ⟨am_i (fiS (fun b => fiR (min 31 (999 - h)) U V (fun j => hdS last wf fm wd (nt b) j (s b)) n 0) nb 0 0 : Nat), ?_⟩
  rw [sg_X11_which_0]
  simp (disch := first | assumption | omega) only [rX hx, ly_csx, ly_cax, ly_cf, ly_kd, ly_ln, ↓Bool.cond_decide, cond_true, cond_false, ↓bI_p, ↓bV_p, ↓bL_p, bIJ_s, bVJ_s, bLJ_s, ↓am_let_s, Nat.blt, Nat.ble, Bool.and_true, Bool.true_and, Bool.and_self, Int.cast_ofNat_Int, am_i_add, am_i_sub, am_i_mul, am_ok_i, am_i_cl, n_lt, n_le, n_eq, n_lt0, n_le0, n_0lt, n_0le, n_eq0, ne_eq, ↓reduceIte, not_true_eq_false, not_false_eq_true, and_true, true_and, and_false, false_and, eq_T, eq_F, lt_T, lt_F, le_T, le_F, qn_T, qn_F, and_F, b01_T, b01_F, e_isIn, Int32.toInt_toInt64, am_i_toInt, am_l_toInt, Int.toNat_natCast, Int.reduceToNat, Int.reduceAdd, Int.reduceSub, Int.reduceMul, Int.reduceNeg, Nat.reduceAdd, Nat.reduceMul, Nat.add_zero, Nat.mul_zero, Nat.zero_add, am_zb0, am_zb1, h4]
  refine Wp_V (x_listen (d := d + 3) (s := s) (h := h) (wd := wd) (wf := wf) (fm := fm) hx (rR_r hmu) hc b3 hh e66 hXx (fun e => (b8 e).1) i1 (fun b hb => ⟨(hnt b hb).1, (hnt b hb).2.1⟩) (fun b hb => ⟨(hbt b hb).1, (hbt b hb).2.1⟩)) ?_
  rintro _ _ ⟨I1, R1, rfl, rfl, r1, r2, r3, r4, r5⟩
  refine ⟨rfl, ?_⟩
  have hx1 := rR_x r1 hx
  have hm1 := rR_m r1 hm
  have h41 : R1 3 4 = c := by rw [r1.1 _ _ (by omega)]; exact h4
  have e1 : I1 c 1 = am_i nb := by rw [r2 _ _ (by unfold liC; omega)]; exact i1
  have hp : ∀ d b, b < nb → am_E (d + 1) 33 2 [(0, .ref 57), (1, .int (am_i b)), (2, .int (am_i 0))] [] (I1, J, R1, 138) = some (some (.int (b01 ((fun b => fiR (min 31 (999 - h)) U V (fun j => hdS last wf fm wd (nt b) j (s b)) n 0) b = true))), (I1, J, R1, 138)) := fun d b hb => x_fits (d := d) (J := J) (n := n) (H := min 31 (999 - h)) (b := b) (U := U) (V := V) (hd := fun j => hdS last wf fm wd (nt b) j (s b)) hx1 hn (by omega) (by omega) (by rw [r2 _ _ (by unfold liC; omega)]; exact s1) (fun r hr => ⟨(hUV r hr).1, (hUV r hr).2.1, by rw [r2 _ _ (by unfold liC; omega)]; exact (hUV r hr).2.2.1, by rw [r2 _ _ (by unfold liC; omega)]; exact (hUV r hr).2.2.2.1⟩) (fun j hj => ⟨hdS_b j (hbt b hb).1, r4 b hb j hj⟩) (fun j j1 j2 => r5 _ (by omega) (fun b' hb' => by omega)) n 0 (by omega)
  have fx : ∀ d, am_E (d + 2) 32 4 [(0, .ref 57), (1, .int (am_i nb)), (2, .int (am_i 0)), (3, .int (am_i 0))] [] (I1, J, R1, 138) = _ := fun d => x_fitting (d := d) (J := J) (R := R1) (I := I1) b3 hp nb 0 0 (by omega) (by omega)
  simp (disch := first | assumption | omega) only [am_i_add, am_i_sub, am_i_mul, am_ok_i, am_i_cl, n_lt, n_le, n_eq, n_lt0, n_le0, n_0lt, n_0le, n_eq0, ne_eq, ↓reduceIte, not_true_eq_false, not_false_eq_true, and_true, true_and, and_false, false_and, eq_T, eq_F, lt_T, lt_F, le_T, le_F, qn_T, qn_F, and_F, b01_T, b01_F, e_isIn, Int32.toInt_toInt64, am_i_toInt, am_l_toInt, Int.toNat_natCast, Int.reduceToNat, Int.reduceAdd, Int.reduceSub, Int.reduceMul, Int.reduceNeg, Nat.reduceAdd, Nat.reduceMul, Nat.add_zero, Nat.mul_zero, Nat.zero_add, am_zb0, am_zb1, ↓Bool.cond_decide, cond_true, cond_false, ↓am_let_s, ↓bI_p, bIJ_s, ↓bV_p, bVJ_s, ↓bL_p, bLJ_s, ly_cf, Bool.and_self, Bool.and_true, rX hx1, h41, rC hx1 hc, e1, sg_X4_fitting_0, fx]
  refine Wp_r ⟨I1, J, R1, rfl, rfl, funext (fun k => r2 1 k (by unfold liC; omega)), r1.1 _ _ (by omega), ?_⟩
  have g : ∀ q k, ¬ sC q k → I1 q k = I q k := fun q k e => r2 q k (by unfold sC at e; unfold liC; omega)
  have e50 : I1 64 50 = am_i (if last = 0 then 0 else 1) := by rw [r2 _ _ (by unfold liC; omega)]; exact mS
  rw [sg_X12_which_0]
  by_cases hl0 : last = 0
  · rw [if_pos hl0] at e50
    simp (disch := first | assumption | omega) only [↓Bool.cond_decide, cond_true, cond_false, ↓am_let_s, ↓bI_p, bIJ_s, ↓bV_p, bVJ_s, ↓bL_p, bLJ_s, ly_cf, Bool.and_self, Bool.and_true, am_i_add, am_i_sub, am_i_mul, am_ok_i, am_i_cl, n_lt, n_le, n_eq, n_lt0, n_le0, n_0lt, n_0le, n_eq0, ne_eq, ↓reduceIte, not_true_eq_false, not_false_eq_true, and_true, true_and, and_false, false_and, eq_T, eq_F, lt_T, lt_F, le_T, le_F, qn_T, qn_F, and_F, b01_T, b01_F, e_isIn, Int32.toInt_toInt64, am_i_toInt, am_l_toInt, Int.toNat_natCast, Int.reduceToNat, Int.reduceAdd, Int.reduceSub, Int.reduceMul, Int.reduceNeg, Nat.reduceAdd, Nat.reduceMul, Nat.add_zero, Nat.mul_zero, Nat.zero_add, am_zb0, am_zb1, e50]
    have nb0 := (b8 hl0).1
    refine Wp_r ⟨I1, J, R1, ?_, rfl, vV_s hV0 g (fun _ _ _ _ => rfl) r1⟩
    rw [nb0]
    rfl
  · rw [if_neg hl0] at e50
    have hXm : cxM last wd nb nt wf fm I1 := cxM_c (fun q k a1 a2 => r2 q k (by unfold liC; omega)) ⟨m0, b2, m4, b6, m1, b3, fun b hb => ⟨(hnt b hb).1, (hnt b hb).2.2⟩, fun m hm => (hwf m hm).2.2, fun f hf => ⟨(hF hl0 f hf).2.1, (hF hl0 f hf).2.2⟩⟩
    have hRM : rwM nb nt last h s I1 := rwM_c ⟨hh, g0, fun b hb => ⟨(hbt b hb).1, (hbt b hb).2.2⟩⟩ b3 (fun b hb => (hnt b hb).1) (fun k _ => r2 _ _ (by unfold liC; omega))
    simp (disch := first | assumption | omega) only [↓Bool.cond_decide, cond_true, cond_false, ↓am_let_s, ↓bI_p, bIJ_s, ↓bV_p, bVJ_s, ↓bL_p, bLJ_s, ly_cf, Bool.and_self, Bool.and_true, am_i_add, am_i_sub, am_i_mul, am_ok_i, am_i_cl, n_lt, n_le, n_eq, n_lt0, n_le0, n_0lt, n_0le, n_eq0, ne_eq, ↓reduceIte, not_true_eq_false, not_false_eq_true, and_true, true_and, and_false, false_and, eq_T, eq_F, lt_T, lt_F, le_T, le_F, qn_T, qn_F, and_F, b01_T, b01_F, e_isIn, Int32.toInt_toInt64, am_i_toInt, am_l_toInt, Int.toNat_natCast, Int.reduceToNat, Int.reduceAdd, Int.reduceSub, Int.reduceMul, Int.reduceNeg, Nat.reduceAdd, Nat.reduceMul, Nat.add_zero, Nat.mul_zero, Nat.zero_add, am_zb0, am_zb1, e50, sg_X12_seenSet_0]
    refine Wp_I (Wp_V (m_lays (d := d) (J := J) hm1 hXm (by rw [r2 _ _ (by unfold liC; omega)]; exact mT) hRM) (Q := fun q' M' => ∃ I3 J3, q' = some (.int (am_i (fiS (fun b => fiR (min 31 (999 - h)) U V (fun j => hdS last wf fm wd (nt b) j (s b)) n 0) nb 0 0 : Nat))) ∧ M' = (I3, J3, R1, 138) ∧ frJ J J3 ∧ ∀ q k, ¬ sC q k → I3 q k = I1 q k) ?_) ?_
    · rintro _ _ ⟨I2, J2, rfl, rfl, p1, p2, p3, p4⟩
      refine ⟨rfl, ?_⟩
      have hq : ∀ d b, b < nb → am_E (d + 1) 243 2 [(0, .ref 64), (1, .int (am_i b)), (2, .int (am_i 0))] [] (I2, J2, R1, 138) = some (some (.int (b01 ((fun b => fiR (min 31 (999 - h)) U V (fun j => hdS last wf fm wd (nt b) j (s b)) n 0) b = true))), (I2, J2, R1, 138)) := fun d b hb => m_seen (d := d) (J := J2) (n := n) (H := min 31 (999 - h)) (b := b) (U := U) (V := V) (hd := fun j => hdS last wf fm wd (nt b) j (s b)) hm1 hn (by omega) (by omega) (by rw [p2 _ _ (by unfold sC; omega), r2 _ _ (by unfold liC; omega)]; exact s2) p3 (fun r hr => ⟨(hUV r hr).1, (hUV r hr).2.1, by rw [p2 _ _ (by unfold sC; omega), r2 _ _ (by unfold liC; omega)]; exact (hUV r hr).2.2.2.2.1, by rw [p2 _ _ (by unfold sC; omega), r2 _ _ (by unfold liC; omega)]; exact (hUV r hr).2.2.2.2.2⟩) (fun j hj => ⟨hdS_b j (hbt b hb).1, p4 b hb j hj⟩) n 0 (by omega)
      have fx : am_E (d + 10) 244 8 [(0, .ref 64), (1, .int (am_i 0)), (2, .int (am_i 0))] [] (I2, J2, R1, 138) = _ := m_set (d := d + 8) (J := J2) (R := R1) (I := I2) hm1 b3 (by rw [p2 _ _ (by unfold sC; omega)]; exact hXm.2.2.2.2.1) hq nb 0 0 (by omega) (by omega)
      exact Wp_e fx (Wp_r ⟨I2, J2, rfl, rfl, p1, p2⟩)
    · rintro _ _ ⟨I3, J3, rfl, rfl, p1, p2⟩
      refine ⟨_, rfl, Wp_r ⟨I3, J3, R1, rfl, rfl, vV_s hV0 (fun q k e => by rw [p2 q k e, g q k e]) (fun q k e1 e2 => p1 q k e1) r1⟩⟩
end PWHI
