/-! ===== thoughts of the reference ===== -/
def thM (I0 I : tI) : Prop := I 64 58 = am_i 1 ∧ (∀ k, k < 67 → I 104 k = I0 103 k) ∧ (∀ k, 67 ≤ k → I 103 k = I0 103 k) ∧ ∀ q k, ¬ sC q k → q ≠ 103 → ¬ (q = 64 ∧ k = 58) → I q k = I0 q k
theorem thM_h {I0 I I' : tI} (h : thM I0 I) (g : ∀ q k, ¬ mHc q k → I' q k = I q k) (g2 : ∀ k, 67 ≤ k → I' 103 k = I 103 k) : thM I0 I' := by
  obtain ⟨h1, h2, h3, h4⟩ := h
  refine ⟨?_, fun k hk => ?_, fun k hk => ?_, fun q k a b c => ?_⟩
  · rw [g _ _ (by unfold mHc; omega)]; exact h1
  · rw [g _ _ (by unfold mHc; omega)]; exact h2 k hk
  · rw [g2 k hk]; exact h3 k hk
  · rw [g q k (by unfold sC at a; unfold mHc; omega)]; exact h4 q k a b c
section THINK
variable {d : Nat} {J : tJ} {R : tR} {last wd nb : Nat} {nt wf : Nat → Nat} {fm : Nat → List tok} {s : Nat → bt} {u h : Nat}
theorem m_as7 (hm : st_Rm R) : ∀ (n a : Nat) (I : tI), a + n = 67 → ∃ I', am_E (d + 1) 212 7 [(0, .ref 64), (1, .int (am_i a))] [] (I, J, R, 138) = some (none, (I', J, R, 138)) ∧ (∀ q k, ¬ (q = 104 ∧ a ≤ k ∧ k < 67) → I' q k = I q k) ∧ ∀ k, a ≤ k → k < 67 → I' 104 k = I 103 k
  | 0, a, I, h => by
    refine ⟨I, ?_, fun _ _ _ => rfl, fun k h1 h2 => absurd h2 (by omega)⟩
    rw [sg_X12_putsAside_7]
    simp (disch := first | assumption | omega) only [rM hm, ly_csm, ly_cam, ly_cf, ly_kd, ly_ln, ↓Bool.cond_decide, cond_true, cond_false, ↓bI_p, ↓bV_p, ↓bL_p, bIJ_s, bVJ_s, bLJ_s, ↓am_let_s, Nat.blt, Nat.ble, Bool.and_true, Bool.true_and, Bool.and_self, Int.cast_ofNat_Int, am_i_add, am_i_sub, am_i_mul, am_ok_i, am_i_cl, n_lt, n_le, n_eq, n_lt0, n_le0, n_0lt, n_0le, n_eq0, ne_eq, ↓reduceIte, not_true_eq_false, not_false_eq_true, and_true, true_and, and_false, false_and, eq_T, eq_F, lt_T, lt_F, le_T, le_F, qn_T, qn_F, and_F, b01_T, b01_F, e_isIn, Int32.toInt_toInt64, am_i_toInt, am_l_toInt, Int.toNat_natCast, Int.reduceToNat, Int.reduceAdd, Int.reduceSub, Int.reduceMul, Int.reduceNeg, Nat.reduceAdd, Nat.reduceMul, Nat.add_zero, Nat.mul_zero, Nat.zero_add, am_zb0, am_zb1]
  | n + 1, a, I, h => by
    obtain ⟨I', g1, g2, g3⟩ := m_as7 hm n (a + 1) (am_up I 104 a (I 103 a)) (by omega)
    refine ⟨I', ?_, fun q k h => ?_, fun k h1 h2 => ?_⟩
    · rw [← g1, sg_X12_putsAside_7]
      simp (disch := first | assumption | omega) only [rM hm, ly_csm, ly_cam, ly_cf, ly_kd, ly_ln, ↓Bool.cond_decide, cond_true, cond_false, ↓bI_p, ↓bV_p, ↓bL_p, bIJ_s, bVJ_s, bLJ_s, ↓am_let_s, Nat.blt, Nat.ble, Bool.and_true, Bool.true_and, Bool.and_self, Int.cast_ofNat_Int, am_i_add, am_i_sub, am_i_mul, am_ok_i, am_i_cl, n_lt, n_le, n_eq, n_lt0, n_le0, n_0lt, n_0le, n_eq0, ne_eq, ↓reduceIte, not_true_eq_false, not_false_eq_true, and_true, true_and, and_false, false_and, eq_T, eq_F, lt_T, lt_F, le_T, le_F, qn_T, qn_F, and_F, b01_T, b01_F, e_isIn, Int32.toInt_toInt64, am_i_toInt, am_l_toInt, Int.toNat_natCast, Int.reduceToNat, Int.reduceAdd, Int.reduceSub, Int.reduceMul, Int.reduceNeg, Nat.reduceAdd, Nat.reduceMul, Nat.add_zero, Nat.mul_zero, Nat.zero_add, am_zb0, am_zb1, am_i_s]
    · rw [g2 q k (by omega), am_up_o (by omega)]
    · by_cases q : k = a
      · subst q
        rw [g2 _ _ (by omega), am_up_e]
      · rw [g3 k (by omega) h2, am_up_o (by omega)]
theorem m_aside {I : tI} (hm : st_Rm R) : Wp (fun r M => ∃ I', r = none ∧ M = (I', J, R, 138) ∧ thM I I' ∧ ∀ k, I' 103 k = I 103 k) (am_E (d + 1) 212 0 [(0, .ref 64)] [] (I, J, R, 138)) := by
  obtain ⟨I', g1, g2, g3⟩ := m_as7 (d := d) (J := J) (R := R) hm 67 0 (am_up I 64 58 (am_i 1)) (by omega)
  have g1' : am_E (d + 1) 212 7 [(0, .ref 64), (1, .int (am_i 0))] [] (am_up I 64 58 (am_i 1), J, R, 138) = some (none, (I', J, R, 138)) := g1
  rw [sg_X12_putsAside_0]
  simp (disch := first | assumption | omega) only [rM hm, ly_csm, ly_cam, ly_cf, ly_kd, ly_ln, ↓Bool.cond_decide, cond_true, cond_false, ↓bI_p, ↓bV_p, ↓bL_p, bIJ_s, bVJ_s, bLJ_s, ↓am_let_s, Nat.blt, Nat.ble, Bool.and_true, Bool.true_and, Bool.and_self, Int.cast_ofNat_Int, am_i_add, am_i_sub, am_i_mul, am_ok_i, am_i_cl, n_lt, n_le, n_eq, n_lt0, n_le0, n_0lt, n_0le, n_eq0, ne_eq, ↓reduceIte, not_true_eq_false, not_false_eq_true, and_true, true_and, and_false, false_and, eq_T, eq_F, lt_T, lt_F, le_T, le_F, qn_T, qn_F, and_F, b01_T, b01_F, e_isIn, Int32.toInt_toInt64, am_i_toInt, am_l_toInt, Int.toNat_natCast, Int.reduceToNat, Int.reduceAdd, Int.reduceSub, Int.reduceMul, Int.reduceNeg, Nat.reduceAdd, Nat.reduceMul, Nat.add_zero, Nat.mul_zero, Nat.zero_add, am_zb0, am_zb1, g1']
  refine Wp_r ⟨I', rfl, rfl, ⟨?_, fun k hk => ?_, fun k hk => ?_, fun q k a b c => ?_⟩, fun k => ?_⟩
  · rw [g2 _ _ (by omega), am_up_e]
  · rw [g3 k (by omega) hk, am_up_o (by omega)]
  · rw [g2 _ _ (by omega), am_up_o (by omega)]
  · rw [g2 q k (by unfold sC at a; omega), am_up_o c]
  · rw [g2 _ _ (by omega), am_up_o (by omega)]
theorem m_tr2 (hm : st_Rm R) : ∀ (n a : Nat) (I : tI), a + n = 67 → ∃ I', am_E (d + 1) 213 2 [(0, .ref 64), (1, .int (am_i a))] [] (I, J, R, 138) = some (none, (I', J, R, 138)) ∧ (∀ q k, ¬ (q = 103 ∧ a ≤ k ∧ k < 67) → I' q k = I q k) ∧ ∀ k, a ≤ k → k < 67 → I' 103 k = I 104 k
  | 0, a, I, h => by
    refine ⟨I, ?_, fun _ _ _ => rfl, fun k h1 h2 => absurd h2 (by omega)⟩
    rw [sg_X12_triesAnew_2]
    simp (disch := first | assumption | omega) only [rM hm, ly_csm, ly_cam, ly_cf, ly_kd, ly_ln, ↓Bool.cond_decide, cond_true, cond_false, ↓bI_p, ↓bV_p, ↓bL_p, bIJ_s, bVJ_s, bLJ_s, ↓am_let_s, Nat.blt, Nat.ble, Bool.and_true, Bool.true_and, Bool.and_self, Int.cast_ofNat_Int, am_i_add, am_i_sub, am_i_mul, am_ok_i, am_i_cl, n_lt, n_le, n_eq, n_lt0, n_le0, n_0lt, n_0le, n_eq0, ne_eq, ↓reduceIte, not_true_eq_false, not_false_eq_true, and_true, true_and, and_false, false_and, eq_T, eq_F, lt_T, lt_F, le_T, le_F, qn_T, qn_F, and_F, b01_T, b01_F, e_isIn, Int32.toInt_toInt64, am_i_toInt, am_l_toInt, Int.toNat_natCast, Int.reduceToNat, Int.reduceAdd, Int.reduceSub, Int.reduceMul, Int.reduceNeg, Nat.reduceAdd, Nat.reduceMul, Nat.add_zero, Nat.mul_zero, Nat.zero_add, am_zb0, am_zb1]
  | n + 1, a, I, h => by
    obtain ⟨I', g1, g2, g3⟩ := m_tr2 hm n (a + 1) (am_up I 103 a (I 104 a)) (by omega)
    refine ⟨I', ?_, fun q k h => ?_, fun k h1 h2 => ?_⟩
    · rw [← g1, sg_X12_triesAnew_2]
      simp (disch := first | assumption | omega) only [rM hm, ly_csm, ly_cam, ly_cf, ly_kd, ly_ln, ↓Bool.cond_decide, cond_true, cond_false, ↓bI_p, ↓bV_p, ↓bL_p, bIJ_s, bVJ_s, bLJ_s, ↓am_let_s, Nat.blt, Nat.ble, Bool.and_true, Bool.true_and, Bool.and_self, Int.cast_ofNat_Int, am_i_add, am_i_sub, am_i_mul, am_ok_i, am_i_cl, n_lt, n_le, n_eq, n_lt0, n_le0, n_0lt, n_0le, n_eq0, ne_eq, ↓reduceIte, not_true_eq_false, not_false_eq_true, and_true, true_and, and_false, false_and, eq_T, eq_F, lt_T, lt_F, le_T, le_F, qn_T, qn_F, and_F, b01_T, b01_F, e_isIn, Int32.toInt_toInt64, am_i_toInt, am_l_toInt, Int.toNat_natCast, Int.reduceToNat, Int.reduceAdd, Int.reduceSub, Int.reduceMul, Int.reduceNeg, Nat.reduceAdd, Nat.reduceMul, Nat.add_zero, Nat.mul_zero, Nat.zero_add, am_zb0, am_zb1, am_i_s]
    · rw [g2 q k (by omega), am_up_o (by omega)]
    · by_cases q : k = a
      · subst q
        rw [g2 _ _ (by omega), am_up_e]
      · rw [g3 k (by omega) h2, am_up_o (by omega)]
/-- what was put aside is now again -/
theorem m_anew {I0 I : tI} (hm : st_Rm R) (ht : thM I0 I) : Wp (fun r M => ∃ I', r = none ∧ M = (I', J, R, 138) ∧ thM I0 I' ∧ (∀ k, I' 103 k = I0 103 k) ∧ ∀ q k, q ≠ 103 → I' q k = I q k) (am_E (d + 1) 213 0 [(0, .ref 64)] [] (I, J, R, 138)) := by
  obtain ⟨I', g1, g2, g3⟩ := m_tr2 (d := d) (J := J) (R := R) hm 67 0 I (by omega)
  have g1' : am_E (d + 1) 213 2 [(0, .ref 64), (1, .int (am_i 0))] [] (I, J, R, 138) = some (none, (I', J, R, 138)) := g1
  obtain ⟨h1, h2, h3, h4⟩ := ht
  have e : ∀ k, I' 103 k = I0 103 k := fun k => by
    by_cases q : k < 67
    · rw [g3 k (by omega) q, h2 k q]
    · rw [g2 _ _ (by omega), h3 k (by omega)]
  refine Wp_e ((sg_X12_triesAnew_0 _ _ _).trans g1') (Wp_r ⟨I', rfl, rfl, ⟨?_, fun k hk => ?_, fun k hk => e k, fun q k a b c => ?_⟩, e, fun q k a => g2 q k (by omega)⟩)
  · rw [g2 _ _ (by omega)]; exact h1
  · rw [g2 _ _ (by omega)]; exact h2 k hk
  · rw [g2 q k (by omega)]; exact h4 q k a b c
theorem m_back {I0 I : tI} (hm : st_Rm R) (ht : thM I0 I) (h0 : I0 64 58 = am_i 0) : Wp (fun r M => ∃ I', r = none ∧ M = (I', J, R, 138) ∧ ∀ q k, ¬ sC q k → I' q k = I0 q k) (am_E (d + 2) 214 0 [(0, .ref 64)] [] (I, J, R, 138)) := by
  rw [sg_X12_takesBack_0]
  simp (disch := first | assumption | omega) only [rM hm, ly_csm, ly_cam, ly_cf, ly_kd, ly_ln, ↓Bool.cond_decide, cond_true, cond_false, ↓bI_p, ↓bV_p, ↓bL_p, bIJ_s, bVJ_s, bLJ_s, ↓am_let_s, Nat.blt, Nat.ble, Bool.and_true, Bool.true_and, Bool.and_self, Int.cast_ofNat_Int]
  refine Wp_V (m_anew hm ht) ?_
  rintro _ _ ⟨I', rfl, rfl, ⟨h1, h2, h3, h4⟩, e, -⟩
  refine ⟨rfl, ?_⟩
  simp (disch := first | assumption | omega) only [rM hm, ly_csm, ly_cam, ly_cf, ly_kd, ly_ln, ↓Bool.cond_decide, cond_true, cond_false, ↓bI_p, ↓bV_p, ↓bL_p, bIJ_s, bVJ_s, bLJ_s, ↓am_let_s, Nat.blt, Nat.ble, Bool.and_true, Bool.true_and, Bool.and_self, Int.cast_ofNat_Int, am_i_add, am_i_sub, am_i_mul, am_ok_i, am_i_cl, n_lt, n_le, n_eq, n_lt0, n_le0, n_0lt, n_0le, n_eq0, ne_eq, ↓reduceIte, not_true_eq_false, not_false_eq_true, and_true, true_and, and_false, false_and, eq_T, eq_F, lt_T, lt_F, le_T, le_F, qn_T, qn_F, and_F, b01_T, b01_F, e_isIn, Int32.toInt_toInt64, am_i_toInt, am_l_toInt, Int.toNat_natCast, Int.reduceToNat, Int.reduceAdd, Int.reduceSub, Int.reduceMul, Int.reduceNeg, Nat.reduceAdd, Nat.reduceMul, Nat.add_zero, Nat.mul_zero, Nat.zero_add, am_zb0, am_zb1]
  refine Wp_r ⟨_, rfl, rfl, fun q k a => ?_⟩
  by_cases c : q = 64 ∧ k = 58
  · rw [c.1, c.2, am_up_e, h0]
  · rw [am_up_o c]
    by_cases b : q = 103
    · rw [b]; exact e k
    · exact h4 q k a b c
theorem rwM_c {I I' : tI} (h1 : rwM nb nt last h s I) (h6 : nb ≤ 6) (hn : ∀ b, b < nb → nt b ≤ 6) (e : ∀ k, k < 67 → I' 103 k = I 103 k) : rwM nb nt last h s I' := by
  obtain ⟨a1, a2, a3⟩ := h1
  refine ⟨a1, by rw [e _ (by omega)]; exact a2, fun b hb => ⟨(a3 b hb).1, ?_⟩⟩
  have := hn b hb
  obtain ⟨y1, y2, y3, y4, y5, y6⟩ := bX_i.mp (a3 b hb).2
  exact bX_i.mpr ⟨by rw [e _ (by omega)]; exact y1, by rw [e _ (by omega)]; exact y2, by rw [e _ (by omega)]; exact y3, by rw [e _ (by omega)]; exact y4, by rw [e _ (by omega)]; exact y5, fun k hk => by rw [e _ (by omega)]; exact y6 k hk⟩
/-- an hour in thoughts -/
theorem m_thour {I0 I : tI} (hm : st_Rm R) (hu : u ≤ 9) (hX : cxM last wd nb nt wf fm I0) (hh : h ≤ 998) (ht : thM I0 I) (hB : rwM nb nt last h s I) : Wp (fun r M => ∃ I' J', r = none ∧ M = (I', J', R, 138) ∧ frJ J J' ∧ thM I0 I' ∧ rwM nb nt last (h + 1) (hrS last wf fm nt u s) I' ∧ (∀ b, b < nb → I' 106 b = am_i (noS last (nt b) (s b))) ∧ I' 64 60 = am_i (skF (skB last wf fm u nt s) 0 nb (-1)) ∧ ∀ q k, ¬ mHc q k → I' q k = I q k) (am_E (d + 7) 210 0 [(0, .ref 64), (1, .int (am_i u))] [] (I, J, R, 138)) := by
  obtain ⟨lm, -, -, h59⟩ := i32_z (I 64 59)
  have hX' : cxM last wd nb nt wf fm I := cxM_c (fun q k a1 a2 => ht.2.2.2 q k (by unfold sC; omega) (by omega) (by omega)) hX
  refine Wp_m (m_hour (th := true) (L := []) hm hu hX' hh ht.1 (fun e => by cases e) hB h59) ?_
  rintro _ _ ⟨I', J', rfl, rfl, g1, g2, g3, g4, g5, g6, g7, -⟩
  exact ⟨I', J', rfl, rfl, g1, thM_h ht g2 (g7 rfl), g3, g4, g5, g2⟩
def itH (last : Nat) (wf : Nat → Nat) (fm : Nat → List tok) (nt : Nat → Nat) (u : Nat) : Nat → (Nat → bt) → Nat → bt
  | 0, s => s
  | n + 1, s => itH last wf fm nt u n (hrS last wf fm nt u s)
def itB (last : Nat) (wf : Nat → Nat) (fm : Nat → List tok) (u n : Nat) : Nat → bt → bt
  | 0, x => x
  | k + 1, x => itB last wf fm u n k (paS last wf fm u n x)
theorem itH_b : ∀ (k : Nat) (s : Nat → bt) (b : Nat), itH last wf fm nt u k s b = itB last wf fm u (nt b) k (s b)
  | 0, _, _ => rfl
  | k + 1, s, b => itH_b k (hrS last wf fm nt u s) b
theorem itB_ok {n : Nat} : ∀ (k : Nat) {x : bt}, bOK last n x → bOK last n (itB last wf fm u n k x)
  | 0, _, h => h
  | k + 1, _, h => itB_ok k (paS_ok h)
theorem m_hgo2 {I0 : tI} {z : Nat} (hm : st_Rm R) (hX : cxM last wd nb nt wf fm I0) (hz : z ≤ 60) : ∀ (n i h : Nat) (s : Nat → bt) (I : tI) (J : tJ), i + n = z → h + n ≤ 999 → thM I0 I → rwM nb nt last h s I → Wp (fun r M => ∃ I' J', r = none ∧ M = (I', J', R, 138) ∧ frJ J J' ∧ thM I0 I' ∧ rwM nb nt last (h + n) (itH last wf fm nt wd n s) I') (am_E (d + 8) 211 2 [(0, .ref 64), (1, .int (am_i z)), (2, .int (am_i i))] [] (I, J, R, 138))
  | 0, i, h, s, I, J, hi, hh, ht, hB => by
    rw [sg_X12_hoursGo_2]
    simp (disch := first | assumption | omega) only [rM hm, ly_csm, ly_cam, ly_cf, ly_kd, ly_ln, ↓Bool.cond_decide, cond_true, cond_false, ↓bI_p, ↓bV_p, ↓bL_p, bIJ_s, bVJ_s, bLJ_s, ↓am_let_s, Nat.blt, Nat.ble, Bool.and_true, Bool.true_and, Bool.and_self, Int.cast_ofNat_Int, am_i_add, am_i_sub, am_i_mul, am_ok_i, am_i_cl, n_lt, n_le, n_eq, n_lt0, n_le0, n_0lt, n_0le, n_eq0, ne_eq, ↓reduceIte, not_true_eq_false, not_false_eq_true, and_true, true_and, and_false, false_and, eq_T, eq_F, lt_T, lt_F, le_T, le_F, qn_T, qn_F, and_F, b01_T, b01_F, e_isIn, Int32.toInt_toInt64, am_i_toInt, am_l_toInt, Int.toNat_natCast, Int.reduceToNat, Int.reduceAdd, Int.reduceSub, Int.reduceMul, Int.reduceNeg, Nat.reduceAdd, Nat.reduceMul, Nat.add_zero, Nat.mul_zero, Nat.zero_add, am_zb0, am_zb1]
    exact Wp_r ⟨I, J, rfl, rfl, frJ_r _, ht, hB⟩
  | n + 1, i, h, s, I, J, hi, hh, ht, hB => by
    have e4 : I 93 4 = am_i wd := by rw [ht.2.2.2 _ _ (by unfold sC; omega) (by omega) (by omega)]; exact hX.2.2.1
    rw [sg_X12_hoursGo_2]
    simp (disch := first | assumption | omega) only [rM hm, ly_csm, ly_cam, ly_cf, ly_kd, ly_ln, ↓Bool.cond_decide, cond_true, cond_false, ↓bI_p, ↓bV_p, ↓bL_p, bIJ_s, bVJ_s, bLJ_s, ↓am_let_s, Nat.blt, Nat.ble, Bool.and_true, Bool.true_and, Bool.and_self, Int.cast_ofNat_Int, am_i_add, am_i_sub, am_i_mul, am_ok_i, am_i_cl, n_lt, n_le, n_eq, n_lt0, n_le0, n_0lt, n_0le, n_eq0, ne_eq, ↓reduceIte, not_true_eq_false, not_false_eq_true, and_true, true_and, and_false, false_and, eq_T, eq_F, lt_T, lt_F, le_T, le_F, qn_T, qn_F, and_F, b01_T, b01_F, e_isIn, Int32.toInt_toInt64, am_i_toInt, am_l_toInt, Int.toNat_natCast, Int.reduceToNat, Int.reduceAdd, Int.reduceSub, Int.reduceMul, Int.reduceNeg, Nat.reduceAdd, Nat.reduceMul, Nat.add_zero, Nat.mul_zero, Nat.zero_add, am_zb0, am_zb1, e4]
    refine Wp_V (m_thour hm hX.2.2.2.1 hX (by omega) ht hB) ?_
    rintro _ _ ⟨I', J', rfl, rfl, g1, g2, g3, -⟩
    refine ⟨rfl, ?_⟩
    simp (disch := first | assumption | omega) only [am_i_add, am_i_sub, am_i_mul, am_ok_i, am_i_cl, n_lt, n_le, n_eq, n_lt0, n_le0, n_0lt, n_0le, n_eq0, ne_eq, ↓reduceIte, not_true_eq_false, not_false_eq_true, and_true, true_and, and_false, false_and, eq_T, eq_F, lt_T, lt_F, le_T, le_F, qn_T, qn_F, and_F, b01_T, b01_F, e_isIn, Int32.toInt_toInt64, am_i_toInt, am_l_toInt, Int.toNat_natCast, Int.reduceToNat, Int.reduceAdd, Int.reduceSub, Int.reduceMul, Int.reduceNeg, Nat.reduceAdd, Nat.reduceMul, Nat.add_zero, Nat.mul_zero, Nat.zero_add, am_zb0, am_zb1, ↓am_let_s, am_i_s]
    refine Wp_m (m_hgo2 hm hX hz n (i + 1) (h + 1) _ I' J' (by omega) (by omega) g2 g3) ?_
    rintro _ _ ⟨I2, J2, rfl, rfl, k1, k2, k3⟩
    exact ⟨I2, J2, rfl, rfl, frJ_t g1 k1, k2, by rw [show h + (n + 1) = h + 1 + n by omega]; exact k3⟩
end THINK
