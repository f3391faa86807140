/-! ===== any statement: the reference ===== -/
section MST
variable {d : Nat} {J J' : tJ} {R : tR} {T : Nat → Nat} {n p i : Nat} {I I' : tI} {r : Nat × Nat} {X : sSt}
theorem mCh_wind {v : Nat} (h : mCh X I J) (e1 : I' 93 1 = am_i v) (e : ∀ q j, ¬ mlC q j → ¬ (q = 93 ∧ j = 1) → I' q j = I q j) : mCh (X.la, v, X.sq, X.nw, X.sz, X.bn, X.rd, X.wf, X.fo) I' J := by
  obtain ⟨⟨a0, a1, a2, a3, a4, a5⟩, hbn, hr, hw, hf, h8⟩ := h
  refine ⟨⟨?_, e1, ?_, ?_, ?_, ?_⟩, fun j x hx => ?_, fun r y hy => ?_, fun k u hk hu => ?_, fun f hf3 => ⟨fun q => ?_, fun a l q => ?_⟩, ?_⟩
  · rw [e _ _ (by unfold mlC; omega) (by omega)]; exact a0
  · rw [e _ _ (by unfold mlC; omega) (by omega)]; exact a2
  · rw [e _ _ (by unfold mlC; omega) (by omega)]; exact a3
  · rw [e _ _ (by unfold mlC; omega) (by omega)]; exact a4
  · rw [e _ _ (by unfold mlC; omega) (by omega)]; exact a5
  · obtain ⟨b1, b2, b3, b4, b5, b6⟩ := hbn j x hx
    exact ⟨b1, by rw [e _ _ (by unfold mlC; omega) (by omega)]; exact b2, by rw [e _ _ (by unfold mlC; omega) (by omega)]; exact b3, by rw [e _ _ (by unfold mlC; omega) (by omega)]; exact b4, by rw [e _ _ (by unfold mlC; omega) (by omega)]; exact b5, fun k w hv => by
        rw [e _ _ (by unfold mlC; omega) (by omega)]
        exact b6 k w hv⟩
  · rw [e _ _ (by unfold mlC; omega) (by omega)]
    exact hr r y hy
  · rw [e _ _ (by unfold mlC; omega) (by omega)]; exact hw k u hk hu
  · rw [e _ _ (by unfold mlC; omega) (by omega)]
    exact (hf f hf3).1 q
  · obtain ⟨c1, c2, c3⟩ := (hf f hf3).2 a l q
    exact ⟨by rw [e _ _ (by unfold mlC; omega) (by omega)]; exact c1, by rw [e _ _ (by unfold mlC; omega) (by omega)]; exact c2, fun k t ht => by rw [e _ _ (by unfold mlC; omega) (by omega)]; exact c3 k t ht⟩
  · rw [e _ _ (by unfold mlC; omega) (by omega)]; exact h8
theorem mCh_squ {v : Nat} (h : mCh X I J) (e1 : I' 93 2 = am_i v) (e : ∀ q j, ¬ mlC q j → ¬ (q = 93 ∧ j = 2) → I' q j = I q j) : mCh (X.la, X.wd, v, X.nw, X.sz, X.bn, X.rd, X.wf, X.fo) I' J := by
  obtain ⟨⟨a0, a1, a2, a3, a4, a5⟩, hbn, hr, hw, hf, h8⟩ := h
  refine ⟨⟨?_, ?_, e1, ?_, ?_, ?_⟩, fun j x hx => ?_, fun r y hy => ?_, fun k u hk hu => ?_, fun f hf3 => ⟨fun q => ?_, fun a l q => ?_⟩, ?_⟩
  · rw [e _ _ (by unfold mlC; omega) (by omega)]; exact a0
  · rw [e _ _ (by unfold mlC; omega) (by omega)]; exact a1
  · rw [e _ _ (by unfold mlC; omega) (by omega)]; exact a3
  · rw [e _ _ (by unfold mlC; omega) (by omega)]; exact a4
  · rw [e _ _ (by unfold mlC; omega) (by omega)]; exact a5
  · obtain ⟨b1, b2, b3, b4, b5, b6⟩ := hbn j x hx
    exact ⟨b1, by rw [e _ _ (by unfold mlC; omega) (by omega)]; exact b2, by rw [e _ _ (by unfold mlC; omega) (by omega)]; exact b3, by rw [e _ _ (by unfold mlC; omega) (by omega)]; exact b4, by rw [e _ _ (by unfold mlC; omega) (by omega)]; exact b5, fun k w hv => by
        rw [e _ _ (by unfold mlC; omega) (by omega)]
        exact b6 k w hv⟩
  · rw [e _ _ (by unfold mlC; omega) (by omega)]
    exact hr r y hy
  · rw [e _ _ (by unfold mlC; omega) (by omega)]; exact hw k u hk hu
  · rw [e _ _ (by unfold mlC; omega) (by omega)]
    exact (hf f hf3).1 q
  · obtain ⟨c1, c2, c3⟩ := (hf f hf3).2 a l q
    exact ⟨by rw [e _ _ (by unfold mlC; omega) (by omega)]; exact c1, by rw [e _ _ (by unfold mlC; omega) (by omega)]; exact c2, fun k t ht => by rw [e _ _ (by unfold mlC; omega) (by omega)]; exact c3 k t ht⟩
  · rw [e _ _ (by unfold mlC; omega) (by omega)]; exact h8
/-- a number behind a word, kept -/
theorem m_fld (hm : st_Rm R) (hT : txM T n I) (h : mR T n r I) {hi fl : Nat} (hhi : hi ≤ 10000) : ∃ (v : Nat) (I2 : tI), am_E (d + 3) 176 0 [(0, .ref 64), (1, .int (am_i 0)), (2, .int (am_i hi))] [] (I, J, R, 138) = some (some (.int (am_i v)), (I2, J, R, 138)) ∧ ((rS r (fun p => aN T n p 0 hi)).1 = 0 → v = tV T n r.2) ∧ mR T n (rS r (fun p => aN T n p 0 hi)) (am_up I2 93 fl (am_i v)) ∧ ∀ q j, ¬ mlC q j → ¬ (q = 93 ∧ j = fl) → am_up I2 93 fl (am_i v) q j = I q j := by
  obtain ⟨v, I2, b1, b2, b4, b5⟩ := m_rN (d := d) (J := J) hm hT h (lo := 0) (hi := hi) (by omega) hhi
  exact ⟨v, I2, b1, fun e => (b2 e).1, mR_c b4 (fun k hk => am_up_o (by omega)), fun q j e1 e2 => by rw [am_up_o e2, b5 q j e1]⟩
/-- behind a statement: its sign, one more -/
theorem m_203e (hm : st_Rm R) {r : sRs} (hT : txM T n I') (hQ : mQ T n r I' J') (h49 : I' 64 49 = am_i i) (hF : mF I I') (hK : mK J J') : ∃ I2, am_E (d + 4) 188 203 [(0, .ref 64)] [] (I', J', R, 138) = some (none, (I2, J', R, 138)) ∧ mR T n (rS (r.1, r.2.1) (fun p => aS T n p 59)) I2 ∧ (r.1 = 0 → mCh r.2.2 I2 J') ∧ I2 64 49 = am_i (i + 1 : Nat) ∧ txM T n I2 ∧ (∀ q j, ¬ mW q j → ¬ (q = 64 ∧ j = 49) → I2 q j = I q j) ∧ mK J J' := by
  obtain ⟨I1, a1, a2, a3⟩ := m_rS (d := d) (J := J') hm hT hQ.1 (c := 59) (by decide) (by decide) (by decide)
  have a1' : am_E (d + 3) 175 0 [(0, .ref 64), (1, .int (am_i 59))] [] (I', J', R, 138) = _ := a1
  have e49 : I1 64 49 = am_i i := by rw [a3 _ _ (by unfold mlC; omega)]; exact h49
  have tx1 := txM_m hT a3
  refine ⟨am_up I1 64 49 (am_i (i + 1 : Nat)), ?_, mR_c a2 (fun k hk => am_up_o (by omega)), fun e => ?_, am_up_e, txM_c tx1 (fun q k e => am_up_o (by
    have : q ≠ 64 := by
      rcases e with e | e
      · omega
      · exact fix_n e
    omega)), fun q j e1 e2 => ?_, hK⟩
  · rw [sg_X12_statementTold_203]
    simp (disch := first | assumption | omega) only [rM hm, ly_csm, ly_cam, ly_cf, ly_kd, ly_ln, ↓Bool.cond_decide, cond_true, cond_false, ↓bI_p, ↓bV_p, ↓bL_p, bIJ_s, bVJ_s, bLJ_s, ↓am_let_s, Nat.blt, Nat.ble, Bool.and_true, Bool.true_and, Bool.and_self, Int.cast_ofNat_Int, am_i_add, am_i_sub, am_i_mul, am_ok_i, am_i_cl, n_lt, n_le, n_eq, n_lt0, n_le0, n_0lt, n_0le, n_eq0, ne_eq, ↓reduceIte, not_true_eq_false, not_false_eq_true, and_true, true_and, and_false, false_and, eq_T, eq_F, lt_T, lt_F, le_T, le_F, qn_T, qn_F, and_F, b01_T, b01_F, e_isIn, Int32.toInt_toInt64, am_i_toInt, am_l_toInt, Int.toNat_natCast, Int.reduceToNat, Int.reduceAdd, Int.reduceSub, Int.reduceMul, Int.reduceNeg, Nat.reduceAdd, Nat.reduceMul, Nat.add_zero, Nat.mul_zero, Nat.zero_add, am_zb0, am_zb1, a1', e49, am_i_s]
  · exact mCh_c (mCh_m (hQ.2 e) a3 rfl) (fun q j z => am_up_o (by omega)) (fun _ => rfl)
  · rw [am_up_o e2, a3 q j (by unfold mW at e1; unfold mlC; omega), hF q j e1]
theorem txM_F (h : txM T n I) (e : mF I I') : txM T n I' := txM_c h (fun q k z => e q k (by
  have : q ≠ 64 ∧ (q = 65 ∨ (67 ≤ q ∧ q ≤ 92) ∨ (111 ≤ q ∧ q ≤ 133) ∨ q = 6) := by
    rcases z with z | z
    · omega
    · refine ⟨fix_n z, ?_⟩
      unfold fixd at z; simp at z; omega
  unfold mW
  omega))
theorem m_stmt (hm : st_Rm R) (hT : txM T n I) (hR : mrX T n p I) (hX : mCh X I J) (hO : sOK n p i X) {cn : Nat} (h49 : I 64 49 = am_i cn) (hcn : cn < 80) : ∃ I' J', am_E (d + 12) 188 0 [(0, .ref 64)] [] (atP T n p I, J, R, 138) = some (none, (I', J', R, 138)) ∧ mR T n (rS ((sdSt T n X p).1, (sdSt T n X p).2.1) (fun p => aS T n p 59)) I' ∧ ((sdSt T n X p).1 = 0 → mCh (sdSt T n X p).2.2 I' J') ∧ I' 64 49 = am_i (cn + 1 : Nat) ∧ txM T n I' ∧ (∀ q j, ¬ mW q j → ¬ (q = 64 ∧ j = 49) → I' q j = I q j) ∧ mK J J' := by
  have hp : p ≤ n := hO.1.2.2.2.2.2.2.2.2
  have n16 := hT.1
  have ab := tAt_b (T := T) hp
  have hTa := txM_a (p := p) hT
  have hRa := mrX_a hR hp
  have a2 : atP T n p I 64 2 = am_i (tAt T n p) := atP_2
  have e49 : atP T n p I 64 49 = am_i cn := by rw [atP_o (by omega)]; exact h49
  have c80 : ¬ (cn : Int) = 80 := by omega
  have Xa : mCh X (atP T n p I) J := mCh_c hX (fun q j e => atP_o (by omega)) (fun _ => rfl)
  have Fa : mF I (atP T n p I) := fun q j e => atP_o (by unfold mW at e; omega)
  unfold sdSt
  by_cases w1 : tW T n p = (1 : Nat)
  · rw [if_pos (show tW T n p = 1 from w1)]
    have te := tE_wd w1 hp
    obtain ⟨I1, t1, t2, t3⟩ := mk_t (d := d + 8) (J := J) hm hTa hp hRa (q := 68) (w := 1) (by decide) (by decide) w1
    have t1' : am_E (d + 11) 172 0 [(0, .ref 64), (1, .ref 68)] [] (atP T n p I, J, R, 138) = _ := t1
    have T1 := txM_m hTa t3
    have X1 : mCh X I1 J := mCh_m Xa t3 rfl
    have F1 : mF I I1 := mF_t Fa (mF_m t3)
    obtain ⟨I2, J2, b1, b2, b3, b4⟩ := m_boat (d := d + 5) hm T1 t2 te.2 X1 hO
    have b1' : am_E (d + 11) 183 0 [(0, .ref 64), (1, .int (am_i (tAt T n p)))] [] (I1, J, R, 138) = _ := b1
    have F2 := mF_t F1 b3
    obtain ⟨I3, c1, c2, c3, c4, c5, c6, c7⟩ := m_203e (d := d + 8) hm (txM_F T1 b3) b2 (i := cn) (by rw [F2 _ _ (by unfold mW; omega)]; exact h49) F2 b4
    refine ⟨I3, J2, ?_, c2, c3, c4, c5, c6, c7⟩
    have c1' : am_E (d + 12) 188 203 [(0, .ref 64)] [] (I2, J2, R, 138) = _ := c1
    rw [← c1', sg_X12_statementTold_0]
    simp (disch := first | assumption | omega) only [rM hm, ly_csm, ly_cam, ly_cf, ly_kd, ly_ln, ↓Bool.cond_decide, cond_true, cond_false, ↓bI_p, ↓bV_p, ↓bL_p, bIJ_s, bVJ_s, bLJ_s, ↓am_let_s, Nat.blt, Nat.ble, Bool.and_true, Bool.true_and, Bool.and_self, Int.cast_ofNat_Int, am_i_add, am_i_sub, am_i_mul, am_ok_i, am_i_cl, n_lt, n_le, n_eq, n_lt0, n_le0, n_0lt, n_0le, n_eq0, ne_eq, ↓reduceIte, not_true_eq_false, not_false_eq_true, and_true, true_and, and_false, false_and, eq_T, eq_F, lt_T, lt_F, le_T, le_F, qn_T, qn_F, and_F, b01_T, b01_F, e_isIn, Int32.toInt_toInt64, am_i_toInt, am_l_toInt, Int.toNat_natCast, Int.reduceToNat, Int.reduceAdd, Int.reduceSub, Int.reduceMul, Int.reduceNeg, Nat.reduceAdd, Nat.reduceMul, Nat.add_zero, Nat.mul_zero, Nat.zero_add, am_zb0, am_zb1, e49, t1', a2, b1']
  rw [if_neg (show ¬ tW T n p = 1 from w1)]
  have f1 : ∀ d, am_E (d + 3) 172 0 [(0, .ref 64), (1, .ref 68)] [] (atP T n p I, J, R, 138) = some (some (.int (am_i 0)), (atP T n p I, J, R, 138)) := (mk_f (J := J) hm hT hp hR (q := 68) (w := 1) (by decide) (by decide) w1).2
  by_cases w5 : tW T n p = (5 : Nat)
  · rw [if_pos (show tW T n p = 5 from w5)]
    have te := tE_wd w5 hp
    obtain ⟨I1, t1, t2, t3⟩ := mk_t (d := d + 8) (J := J) hm hTa hp hRa (q := 72) (w := 5) (by decide) (by decide) w5
    have t1' : am_E (d + 11) 172 0 [(0, .ref 64), (1, .ref 72)] [] (atP T n p I, J, R, 138) = _ := t1
    have T1 := txM_m hTa t3
    have X1 : mCh X I1 J := mCh_m Xa t3 rfl
    have F1 : mF I I1 := mF_t Fa (mF_m t3)
    obtain ⟨I2, b1, b2, b3⟩ := m_score (d := d + 6) hm T1 t2 te.2 X1 hO
    have b1' : am_E (d + 11) 184 0 [(0, .ref 64)] [] (I1, J, R, 138) = _ := b1
    have F2 := mF_t F1 b3
    obtain ⟨I3, c1, c2, c3, c4, c5, c6, c7⟩ := m_203e (d := d + 8) hm (txM_F T1 b3) b2 (i := cn) (by rw [F2 _ _ (by unfold mW; omega)]; exact h49) F2 (fun _ _ _ => rfl)
    refine ⟨I3, J, ?_, c2, c3, c4, c5, c6, c7⟩
    have c1' : am_E (d + 12) 188 203 [(0, .ref 64)] [] (I2, J, R, 138) = _ := c1
    rw [← c1', sg_X12_statementTold_0]
    simp (disch := first | assumption | omega) only [rM hm, ly_csm, ly_cam, ly_cf, ly_kd, ly_ln, ↓Bool.cond_decide, cond_true, cond_false, ↓bI_p, ↓bV_p, ↓bL_p, bIJ_s, bVJ_s, bLJ_s, ↓am_let_s, Nat.blt, Nat.ble, Bool.and_true, Bool.true_and, Bool.and_self, Int.cast_ofNat_Int, am_i_add, am_i_sub, am_i_mul, am_ok_i, am_i_cl, n_lt, n_le, n_eq, n_lt0, n_le0, n_0lt, n_0le, n_eq0, ne_eq, ↓reduceIte, not_true_eq_false, not_false_eq_true, and_true, true_and, and_false, false_and, eq_T, eq_F, lt_T, lt_F, le_T, le_F, qn_T, qn_F, and_F, b01_T, b01_F, e_isIn, Int32.toInt_toInt64, am_i_toInt, am_l_toInt, Int.toNat_natCast, Int.reduceToNat, Int.reduceAdd, Int.reduceSub, Int.reduceMul, Int.reduceNeg, Nat.reduceAdd, Nat.reduceMul, Nat.add_zero, Nat.mul_zero, Nat.zero_add, am_zb0, am_zb1, e49, f1, t1', b1']
  rw [if_neg (show ¬ tW T n p = 5 from w5)]
  have f5 : ∀ d, am_E (d + 3) 172 0 [(0, .ref 64), (1, .ref 72)] [] (atP T n p I, J, R, 138) = some (some (.int (am_i 0)), (atP T n p I, J, R, 138)) := (mk_f (J := J) hm hT hp hR (q := 72) (w := 5) (by decide) (by decide) w5).2
  by_cases w6 : tW T n p = (6 : Nat)
  · rw [if_pos (show tW T n p = 6 from w6)]
    have te := tE_wd w6 hp
    obtain ⟨I1, t1, t2, t3⟩ := mk_t (d := d + 8) (J := J) hm hTa hp hRa (q := 73) (w := 6) (by decide) (by decide) w6
    have t1' : am_E (d + 11) 172 0 [(0, .ref 64), (1, .ref 73)] [] (atP T n p I, J, R, 138) = _ := t1
    have T1 := txM_m hTa t3
    have X1 : mCh X I1 J := mCh_m Xa t3 rfl
    have F1 : mF I I1 := mF_t Fa (mF_m t3)
    obtain ⟨I2, b1, b2, b3⟩ := m_wolf (d := d + 6) hm T1 t2 te.2 X1 hO
    have b1' : am_E (d + 11) 185 0 [(0, .ref 64)] [] (I1, J, R, 138) = _ := b1
    have F2 := mF_t F1 b3
    obtain ⟨I3, c1, c2, c3, c4, c5, c6, c7⟩ := m_203e (d := d + 8) hm (txM_F T1 b3) b2 (i := cn) (by rw [F2 _ _ (by unfold mW; omega)]; exact h49) F2 (fun _ _ _ => rfl)
    refine ⟨I3, J, ?_, c2, c3, c4, c5, c6, c7⟩
    have c1' : am_E (d + 12) 188 203 [(0, .ref 64)] [] (I2, J, R, 138) = _ := c1
    rw [← c1', sg_X12_statementTold_0]
    simp (disch := first | assumption | omega) only [rM hm, ly_csm, ly_cam, ly_cf, ly_kd, ly_ln, ↓Bool.cond_decide, cond_true, cond_false, ↓bI_p, ↓bV_p, ↓bL_p, bIJ_s, bVJ_s, bLJ_s, ↓am_let_s, Nat.blt, Nat.ble, Bool.and_true, Bool.true_and, Bool.and_self, Int.cast_ofNat_Int, am_i_add, am_i_sub, am_i_mul, am_ok_i, am_i_cl, n_lt, n_le, n_eq, n_lt0, n_le0, n_0lt, n_0le, n_eq0, ne_eq, ↓reduceIte, not_true_eq_false, not_false_eq_true, and_true, true_and, and_false, false_and, eq_T, eq_F, lt_T, lt_F, le_T, le_F, qn_T, qn_F, and_F, b01_T, b01_F, e_isIn, Int32.toInt_toInt64, am_i_toInt, am_l_toInt, Int.toNat_natCast, Int.reduceToNat, Int.reduceAdd, Int.reduceSub, Int.reduceMul, Int.reduceNeg, Nat.reduceAdd, Nat.reduceMul, Nat.add_zero, Nat.mul_zero, Nat.zero_add, am_zb0, am_zb1, e49, f1, f5, t1', b1']
  rw [if_neg (show ¬ tW T n p = 6 from w6)]
  have f6 : ∀ d, am_E (d + 3) 172 0 [(0, .ref 64), (1, .ref 73)] [] (atP T n p I, J, R, 138) = some (some (.int (am_i 0)), (atP T n p I, J, R, 138)) := (mk_f (J := J) hm hT hp hR (q := 73) (w := 6) (by decide) (by decide) w6).2
  by_cases w7 : tW T n p = (7 : Nat)
  · rw [if_pos (show tW T n p = 7 from w7)]
    have te := tE_wd w7 hp
    obtain ⟨I1, t1, t2, t3⟩ := mk_t (d := d + 8) (J := J) hm hTa hp hRa (q := 74) (w := 7) (by decide) (by decide) w7
    have t1' : am_E (d + 11) 172 0 [(0, .ref 64), (1, .ref 74)] [] (atP T n p I, J, R, 138) = _ := t1
    have T1 := txM_m hTa t3
    have X1 : mCh X I1 J := mCh_m Xa t3 rfl
    have F1 : mF I I1 := mF_t Fa (mF_m t3)
    obtain ⟨I2, J2, b1, b2, b3, b4⟩ := m_rider (d := d + 5) hm T1 t2 te.2 X1 hO
    have b1' : am_E (d + 11) 186 0 [(0, .ref 64), (1, .int (am_i (tAt T n p)))] [] (I1, J, R, 138) = _ := b1
    have F2 := mF_t F1 b3
    obtain ⟨I3, c1, c2, c3, c4, c5, c6, c7⟩ := m_203e (d := d + 8) hm (txM_F T1 b3) b2 (i := cn) (by rw [F2 _ _ (by unfold mW; omega)]; exact h49) F2 b4
    refine ⟨I3, J2, ?_, c2, c3, c4, c5, c6, c7⟩
    have c1' : am_E (d + 12) 188 203 [(0, .ref 64)] [] (I2, J2, R, 138) = _ := c1
    rw [← c1', sg_X12_statementTold_0]
    simp (disch := first | assumption | omega) only [rM hm, ly_csm, ly_cam, ly_cf, ly_kd, ly_ln, ↓Bool.cond_decide, cond_true, cond_false, ↓bI_p, ↓bV_p, ↓bL_p, bIJ_s, bVJ_s, bLJ_s, ↓am_let_s, Nat.blt, Nat.ble, Bool.and_true, Bool.true_and, Bool.and_self, Int.cast_ofNat_Int, am_i_add, am_i_sub, am_i_mul, am_ok_i, am_i_cl, n_lt, n_le, n_eq, n_lt0, n_le0, n_0lt, n_0le, n_eq0, ne_eq, ↓reduceIte, not_true_eq_false, not_false_eq_true, and_true, true_and, and_false, false_and, eq_T, eq_F, lt_T, lt_F, le_T, le_F, qn_T, qn_F, and_F, b01_T, b01_F, e_isIn, Int32.toInt_toInt64, am_i_toInt, am_l_toInt, Int.toNat_natCast, Int.reduceToNat, Int.reduceAdd, Int.reduceSub, Int.reduceMul, Int.reduceNeg, Nat.reduceAdd, Nat.reduceMul, Nat.add_zero, Nat.mul_zero, Nat.zero_add, am_zb0, am_zb1, e49, f1, f5, f6, t1', a2, b1']
  rw [if_neg (show ¬ tW T n p = 7 from w7)]
  have f7 : ∀ d, am_E (d + 3) 172 0 [(0, .ref 64), (1, .ref 74)] [] (atP T n p I, J, R, 138) = some (some (.int (am_i 0)), (atP T n p I, J, R, 138)) := (mk_f (J := J) hm hT hp hR (q := 74) (w := 7) (by decide) (by decide) w7).2
  by_cases w9 : tW T n p = (9 : Nat)
  · rw [if_pos (show tW T n p = 9 from w9)]
    have te := tE_wd w9 hp
    obtain ⟨I1, t1, t2, t3⟩ := mk_t (d := d + 8) (J := J) hm hTa hp hRa (q := 76) (w := 9) (by decide) (by decide) w9
    have t1' : am_E (d + 11) 172 0 [(0, .ref 64), (1, .ref 76)] [] (atP T n p I, J, R, 138) = _ := t1
    have T1 := txM_m hTa t3
    have X1 : mCh X I1 J := mCh_m Xa t3 rfl
    have F1 : mF I I1 := mF_t Fa (mF_m t3)
    obtain ⟨I2, b1, b2, b3⟩ := m_form (d := d) hm (f := 0) (by decide) T1 t2 te.2 te.1 X1 hO
    have b1' : am_E (d + 11) 187 0 [(0, .ref 64), (1, .int (am_i 0)), (2, .int (am_i (tAt T n p)))] [] (I1, J, R, 138) = _ := b1
    have F2 := mF_t F1 b3
    obtain ⟨I3, c1, c2, c3, c4, c5, c6, c7⟩ := m_203e (d := d + 8) hm (txM_F T1 b3) b2 (i := cn) (by rw [F2 _ _ (by unfold mW; omega)]; exact h49) F2 (fun _ _ _ => rfl)
    refine ⟨I3, J, ?_, c2, c3, c4, c5, c6, c7⟩
    have c1' : am_E (d + 12) 188 203 [(0, .ref 64)] [] (I2, J, R, 138) = _ := c1
    rw [← c1', sg_X12_statementTold_0]
    simp (disch := first | assumption | omega) only [rM hm, ly_csm, ly_cam, ly_cf, ly_kd, ly_ln, ↓Bool.cond_decide, cond_true, cond_false, ↓bI_p, ↓bV_p, ↓bL_p, bIJ_s, bVJ_s, bLJ_s, ↓am_let_s, Nat.blt, Nat.ble, Bool.and_true, Bool.true_and, Bool.and_self, Int.cast_ofNat_Int, am_i_add, am_i_sub, am_i_mul, am_ok_i, am_i_cl, n_lt, n_le, n_eq, n_lt0, n_le0, n_0lt, n_0le, n_eq0, ne_eq, ↓reduceIte, not_true_eq_false, not_false_eq_true, and_true, true_and, and_false, false_and, eq_T, eq_F, lt_T, lt_F, le_T, le_F, qn_T, qn_F, and_F, b01_T, b01_F, e_isIn, Int32.toInt_toInt64, am_i_toInt, am_l_toInt, Int.toNat_natCast, Int.reduceToNat, Int.reduceAdd, Int.reduceSub, Int.reduceMul, Int.reduceNeg, Nat.reduceAdd, Nat.reduceMul, Nat.add_zero, Nat.mul_zero, Nat.zero_add, am_zb0, am_zb1, e49, f1, f5, f6, f7, t1', a2, b1']
  rw [if_neg (show ¬ tW T n p = 9 from w9)]
  have f9 : ∀ d, am_E (d + 3) 172 0 [(0, .ref 64), (1, .ref 76)] [] (atP T n p I, J, R, 138) = some (some (.int (am_i 0)), (atP T n p I, J, R, 138)) := (mk_f (J := J) hm hT hp hR (q := 76) (w := 9) (by decide) (by decide) w9).2
  by_cases w10 : tW T n p = (10 : Nat)
  · rw [if_pos (show tW T n p = 10 from w10)]
    have te := tE_wd w10 hp
    obtain ⟨I1, t1, t2, t3⟩ := mk_t (d := d + 8) (J := J) hm hTa hp hRa (q := 77) (w := 10) (by decide) (by decide) w10
    have t1' : am_E (d + 11) 172 0 [(0, .ref 64), (1, .ref 77)] [] (atP T n p I, J, R, 138) = _ := t1
    have T1 := txM_m hTa t3
    have X1 : mCh X I1 J := mCh_m Xa t3 rfl
    have F1 : mF I I1 := mF_t Fa (mF_m t3)
    obtain ⟨I2, b1, b2, b3⟩ := m_form (d := d) hm (f := 1) (by decide) T1 t2 te.2 te.1 X1 hO
    have b1' : am_E (d + 11) 187 0 [(0, .ref 64), (1, .int (am_i 1)), (2, .int (am_i (tAt T n p)))] [] (I1, J, R, 138) = _ := b1
    have F2 := mF_t F1 b3
    obtain ⟨I3, c1, c2, c3, c4, c5, c6, c7⟩ := m_203e (d := d + 8) hm (txM_F T1 b3) b2 (i := cn) (by rw [F2 _ _ (by unfold mW; omega)]; exact h49) F2 (fun _ _ _ => rfl)
    refine ⟨I3, J, ?_, c2, c3, c4, c5, c6, c7⟩
    have c1' : am_E (d + 12) 188 203 [(0, .ref 64)] [] (I2, J, R, 138) = _ := c1
    rw [← c1', sg_X12_statementTold_0]
    simp (disch := first | assumption | omega) only [rM hm, ly_csm, ly_cam, ly_cf, ly_kd, ly_ln, ↓Bool.cond_decide, cond_true, cond_false, ↓bI_p, ↓bV_p, ↓bL_p, bIJ_s, bVJ_s, bLJ_s, ↓am_let_s, Nat.blt, Nat.ble, Bool.and_true, Bool.true_and, Bool.and_self, Int.cast_ofNat_Int, am_i_add, am_i_sub, am_i_mul, am_ok_i, am_i_cl, n_lt, n_le, n_eq, n_lt0, n_le0, n_0lt, n_0le, n_eq0, ne_eq, ↓reduceIte, not_true_eq_false, not_false_eq_true, and_true, true_and, and_false, false_and, eq_T, eq_F, lt_T, lt_F, le_T, le_F, qn_T, qn_F, and_F, b01_T, b01_F, e_isIn, Int32.toInt_toInt64, am_i_toInt, am_l_toInt, Int.toNat_natCast, Int.reduceToNat, Int.reduceAdd, Int.reduceSub, Int.reduceMul, Int.reduceNeg, Nat.reduceAdd, Nat.reduceMul, Nat.add_zero, Nat.mul_zero, Nat.zero_add, am_zb0, am_zb1, e49, f1, f5, f6, f7, f9, t1', a2, b1']
  rw [if_neg (show ¬ tW T n p = 10 from w10)]
  have f10 : ∀ d, am_E (d + 3) 172 0 [(0, .ref 64), (1, .ref 77)] [] (atP T n p I, J, R, 138) = some (some (.int (am_i 0)), (atP T n p I, J, R, 138)) := (mk_f (J := J) hm hT hp hR (q := 77) (w := 10) (by decide) (by decide) w10).2
  by_cases w11 : tW T n p = (11 : Nat)
  · rw [if_pos (show tW T n p = 11 from w11)]
    have te := tE_wd w11 hp
    obtain ⟨I1, t1, t2, t3⟩ := mk_t (d := d + 8) (J := J) hm hTa hp hRa (q := 78) (w := 11) (by decide) (by decide) w11
    have t1' : am_E (d + 11) 172 0 [(0, .ref 64), (1, .ref 78)] [] (atP T n p I, J, R, 138) = _ := t1
    have T1 := txM_m hTa t3
    have X1 : mCh X I1 J := mCh_m Xa t3 rfl
    have F1 : mF I I1 := mF_t Fa (mF_m t3)
    obtain ⟨I2, b1, b2, b3⟩ := m_form (d := d) hm (f := 2) (by decide) T1 t2 te.2 te.1 X1 hO
    have b1' : am_E (d + 11) 187 0 [(0, .ref 64), (1, .int (am_i 2)), (2, .int (am_i (tAt T n p)))] [] (I1, J, R, 138) = _ := b1
    have F2 := mF_t F1 b3
    obtain ⟨I3, c1, c2, c3, c4, c5, c6, c7⟩ := m_203e (d := d + 8) hm (txM_F T1 b3) b2 (i := cn) (by rw [F2 _ _ (by unfold mW; omega)]; exact h49) F2 (fun _ _ _ => rfl)
    refine ⟨I3, J, ?_, c2, c3, c4, c5, c6, c7⟩
    have c1' : am_E (d + 12) 188 203 [(0, .ref 64)] [] (I2, J, R, 138) = _ := c1
    rw [← c1', sg_X12_statementTold_0]
    simp (disch := first | assumption | omega) only [rM hm, ly_csm, ly_cam, ly_cf, ly_kd, ly_ln, ↓Bool.cond_decide, cond_true, cond_false, ↓bI_p, ↓bV_p, ↓bL_p, bIJ_s, bVJ_s, bLJ_s, ↓am_let_s, Nat.blt, Nat.ble, Bool.and_true, Bool.true_and, Bool.and_self, Int.cast_ofNat_Int, am_i_add, am_i_sub, am_i_mul, am_ok_i, am_i_cl, n_lt, n_le, n_eq, n_lt0, n_le0, n_0lt, n_0le, n_eq0, ne_eq, ↓reduceIte, not_true_eq_false, not_false_eq_true, and_true, true_and, and_false, false_and, eq_T, eq_F, lt_T, lt_F, le_T, le_F, qn_T, qn_F, and_F, b01_T, b01_F, e_isIn, Int32.toInt_toInt64, am_i_toInt, am_l_toInt, Int.toNat_natCast, Int.reduceToNat, Int.reduceAdd, Int.reduceSub, Int.reduceMul, Int.reduceNeg, Nat.reduceAdd, Nat.reduceMul, Nat.add_zero, Nat.mul_zero, Nat.zero_add, am_zb0, am_zb1, e49, f1, f5, f6, f7, f9, f10, t1', a2, b1']
  rw [if_neg (show ¬ tW T n p = 11 from w11)]
  have f11 : ∀ d, am_E (d + 3) 172 0 [(0, .ref 64), (1, .ref 78)] [] (atP T n p I, J, R, 138) = some (some (.int (am_i 0)), (atP T n p I, J, R, 138)) := (mk_f (J := J) hm hT hp hR (q := 78) (w := 11) (by decide) (by decide) w11).2
  by_cases w12 : tW T n p = (12 : Nat)
  · rw [if_pos (show tW T n p = 12 from w12)]
    have te := tE_wd w12 hp
    obtain ⟨I1, t1, t2, t3⟩ := mk_t (d := d + 8) (J := J) hm hTa hp hRa (q := 79) (w := 12) (by decide) (by decide) w12
    have t1' : am_E (d + 11) 172 0 [(0, .ref 64), (1, .ref 79)] [] (atP T n p I, J, R, 138) = _ := t1
    have T1 := txM_m hTa t3
    have X1 : mCh X I1 J := mCh_m Xa t3 rfl
    have F1 : mF I I1 := mF_t Fa (mF_m t3)
    obtain ⟨v, I2, b1, b2, b3, b4⟩ := m_fld (d := d + 8) (J := J) (fl := 1) hm T1 (mR_0 t2 te.2) (hi := 9) (by omega)
    rw [rS_0 rfl] at b2 b3
    obtain ⟨r2, hr2⟩ : ∃ r2, r2 = aN T n (tE T n p) 0 9 := ⟨_, rfl⟩
    have hr2' : aN T n ((0, tE T n p) : Nat × Nat).2 0 9 = r2 := hr2.symm
    rw [hr2'] at b2 b3
    have b1' : am_E (d + 11) 176 0 [(0, .ref 64), (1, .int (am_i 0)), (2, .int (am_i 9))] [] (I1, J, R, 138) = _ := b1
    have F2 : mF I (am_up I2 93 1 (am_i v)) := mF_t F1 (fun q j e => b4 q j (by unfold mW at e; unfold mlC; omega) (by unfold mW at e; omega))
    have Q2 : mQ T n (sdWind T n X p) (am_up I2 93 1 (am_i v)) J := by
      unfold sdWind
      rw [← hr2]
      by_cases q : r2.1 = 0
      · rw [sI_0 q]
        refine ⟨?_, fun _ => mCh_wind X1 (by rw [am_up_e, b2 q]) b4⟩
        have : ((0 : Nat), r2.2) = r2 := Prod.ext q.symm rfl
        show mR T n (0, r2.2) _
        rw [this]; exact b3
      · rw [sI_n q]
        exact ⟨b3, fun e => absurd e q⟩
    obtain ⟨I3, c1, c2, c3, c4, c5, c6, c7⟩ := m_203e (d := d + 8) hm (txM_F hT F2) Q2 (i := cn) (by rw [F2 _ _ (by unfold mW; omega)]; exact h49) F2 (fun _ _ _ => rfl)
    refine ⟨I3, J, ?_, c2, c3, c4, c5, c6, c7⟩
    have c1' : am_E (d + 12) 188 203 [(0, .ref 64)] [] (am_up I2 93 1 (am_i v), J, R, 138) = _ := c1
    rw [← c1', sg_X12_statementTold_0]
    simp (disch := first | assumption | omega) only [rM hm, ly_csm, ly_cam, ly_cf, ly_kd, ly_ln, ↓Bool.cond_decide, cond_true, cond_false, ↓bI_p, ↓bV_p, ↓bL_p, bIJ_s, bVJ_s, bLJ_s, ↓am_let_s, Nat.blt, Nat.ble, Bool.and_true, Bool.true_and, Bool.and_self, Int.cast_ofNat_Int, am_i_add, am_i_sub, am_i_mul, am_ok_i, am_i_cl, n_lt, n_le, n_eq, n_lt0, n_le0, n_0lt, n_0le, n_eq0, ne_eq, ↓reduceIte, not_true_eq_false, not_false_eq_true, and_true, true_and, and_false, false_and, eq_T, eq_F, lt_T, lt_F, le_T, le_F, qn_T, qn_F, and_F, b01_T, b01_F, e_isIn, Int32.toInt_toInt64, am_i_toInt, am_l_toInt, Int.toNat_natCast, Int.reduceToNat, Int.reduceAdd, Int.reduceSub, Int.reduceMul, Int.reduceNeg, Nat.reduceAdd, Nat.reduceMul, Nat.add_zero, Nat.mul_zero, Nat.zero_add, am_zb0, am_zb1, e49, f1, f5, f6, f7, f9, f10, f11, t1', b1']
  rw [if_neg (show ¬ tW T n p = 12 from w12)]
  have f12 : ∀ d, am_E (d + 3) 172 0 [(0, .ref 64), (1, .ref 79)] [] (atP T n p I, J, R, 138) = some (some (.int (am_i 0)), (atP T n p I, J, R, 138)) := (mk_f (J := J) hm hT hp hR (q := 79) (w := 12) (by decide) (by decide) w12).2
  -- squall, or nothing that can stand here
  obtain ⟨I1, t1, t2, t3⟩ := m_rW (d := d + 7) (J := J) hm hTa (mR_0 hRa hp) (q := 80) (w := 13) (by decide) (by decide)
  rw [rS_0 rfl] at t2
  have t2' : mR T n (aW T n p 13) I1 := t2
  have t1' : am_E (d + 11) 173 0 [(0, .ref 64), (1, .ref 80)] [] (atP T n p I, J, R, 138) = _ := t1
  have T1 := txM_m hTa t3
  have X1 : mCh X I1 J := mCh_m Xa t3 rfl
  have F1 : mF I I1 := mF_t Fa (mF_m t3)
  obtain ⟨v, I2, b1, b2, b3, b4⟩ := m_fld (d := d + 8) (J := J) (fl := 2) hm T1 t2' (hi := 100) (by omega)
  have b1' : am_E (d + 11) 176 0 [(0, .ref 64), (1, .int (am_i 0)), (2, .int (am_i 100))] [] (I1, J, R, 138) = _ := b1
  have F2 : mF I (am_up I2 93 2 (am_i v)) := mF_t F1 (fun q j e => b4 q j (by unfold mW at e; unfold mlC; omega) (by unfold mW at e; omega))
  have Q2 : mQ T n (if tW T n p = 13 then sdSqu T n X p else (1, tAt T n p, X)) (am_up I2 93 2 (am_i v)) J := by
    by_cases w13 : tW T n p = (13 : Nat)
    · rw [if_pos (show tW T n p = 13 from w13)]
      have ea : aW T n p 13 = (0, tE T n p) := by unfold aW; rw [if_pos w13]
      rw [ea, rS_0 rfl] at b2 b3
      unfold sdSqu
      obtain ⟨r2, hr2⟩ : ∃ r2, r2 = aN T n (tE T n p) 0 100 := ⟨_, rfl⟩
      have hr2' : aN T n ((0, tE T n p) : Nat × Nat).2 0 100 = r2 := hr2.symm
      rw [hr2'] at b2 b3
      rw [← hr2]
      by_cases q : r2.1 = 0
      · rw [sI_0 q]
        refine ⟨?_, fun _ => mCh_squ X1 (by rw [am_up_e, b2 q]) b4⟩
        have : ((0 : Nat), r2.2) = r2 := Prod.ext q.symm rfl
        show mR T n (0, r2.2) _
        rw [this]; exact b3
      · rw [sI_n q]
        exact ⟨b3, fun e => absurd e q⟩
    · rw [if_neg (show ¬ tW T n p = 13 from w13)]
      have ea : aW T n p 13 = (1, tAt T n p) := by unfold aW; rw [if_neg w13]
      rw [ea, rS_n (by show ¬ ((1 : Nat) = 0); decide)] at b3
      exact ⟨b3, fun e => absurd e (by show ¬ ((1 : Nat) = 0); decide)⟩
  obtain ⟨I3, c1, c2, c3, c4, c5, c6, c7⟩ := m_203e (d := d + 8) hm (txM_F hT F2) Q2 (i := cn) (by rw [F2 _ _ (by unfold mW; omega)]; exact h49) F2 (fun _ _ _ => rfl)
  refine ⟨I3, J, ?_, c2, c3, c4, c5, c6, c7⟩
  have c1' : am_E (d + 12) 188 203 [(0, .ref 64)] [] (am_up I2 93 2 (am_i v), J, R, 138) = _ := c1
  rw [← c1', sg_X12_statementTold_0]
  simp (disch := first | assumption | omega) only [rM hm, ly_csm, ly_cam, ly_cf, ly_kd, ly_ln, ↓Bool.cond_decide, cond_true, cond_false, ↓bI_p, ↓bV_p, ↓bL_p, bIJ_s, bVJ_s, bLJ_s, ↓am_let_s, Nat.blt, Nat.ble, Bool.and_true, Bool.true_and, Bool.and_self, Int.cast_ofNat_Int, am_i_add, am_i_sub, am_i_mul, am_ok_i, am_i_cl, n_lt, n_le, n_eq, n_lt0, n_le0, n_0lt, n_0le, n_eq0, ne_eq, ↓reduceIte, not_true_eq_false, not_false_eq_true, and_true, true_and, and_false, false_and, eq_T, eq_F, lt_T, lt_F, le_T, le_F, qn_T, qn_F, and_F, b01_T, b01_F, e_isIn, Int32.toInt_toInt64, am_i_toInt, am_l_toInt, Int.toNat_natCast, Int.reduceToNat, Int.reduceAdd, Int.reduceSub, Int.reduceMul, Int.reduceNeg, Nat.reduceAdd, Nat.reduceMul, Nat.add_zero, Nat.mul_zero, Nat.zero_add, am_zb0, am_zb1, e49, f1, f5, f6, f7, f9, f10, f11, f12, t1', b1']
end MST
