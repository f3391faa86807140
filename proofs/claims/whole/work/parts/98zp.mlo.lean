/-! ===== a sound's text is read: the reference ===== -/
def mGg (I I' : tI) : Prop := ∀ q j, ¬ mW q j → ¬ (q = 64 ∧ j = 49) → I' q j = I q j
section MLO
variable {d : Nat} {J J' : tJ} {R : tR} {T : Nat → Nat} {n p i : Nat} {I I' : tI} {r : Nat × Nat} {X : sSt}
/-- what comes out of the loop -/
def mZ (r : sRs) (I : tI) (J : tJ) : Prop := (r.1 = 0 → I 64 5 = am_i 0 ∧ I 64 6 = am_i (-1) ∧ mCh r.2.2 I J ∧ I 64 49 = am_i r.2.1) ∧ (r.1 ≠ 0 → r.1 < 9 ∧ I 64 5 = am_i r.1 ∧ I 64 6 = am_i r.2.1)
theorem mK_t {J'' : tJ} (h : mK J J') (h2 : mK J' J'') : mK J J'' := fun q j e => by rw [h2 q j e, h q j e]
theorem mGg_t {I'' : tI} (h : mGg I I') (h2 : mGg I' I'') : mGg I I'' := fun q j e1 e2 => by rw [h2 q j e1 e2, h q j e1 e2]
theorem m_110F (hm : st_Rm R) (h : mR T n r I) (e : r.1 ≠ 0) : am_E (d + 1) 189 110 [(0, .ref 64)] [] (I, J, R, 138) = am_E (d + 1) 189 132 [(0, .ref 64)] [] (I, J, R, 138) := by
  have h5 := mR_5 h e
  rw [sg_X12_sound_110]
  simp (disch := first | assumption | omega) only [rM hm, ly_csm, ly_cam, ly_cf, ly_kd, ly_ln, ↓Bool.cond_decide, cond_true, cond_false, ↓bI_p, ↓bV_p, ↓bL_p, bIJ_s, bVJ_s, bLJ_s, ↓am_let_s, Nat.blt, Nat.ble, Bool.and_true, Bool.true_and, Bool.and_self, Int.cast_ofNat_Int, am_i_add, am_i_sub, am_i_mul, am_ok_i, am_i_cl, n_lt, n_le, n_eq, n_lt0, n_le0, n_0lt, n_0le, n_eq0, ne_eq, ↓reduceIte, not_true_eq_false, not_false_eq_true, and_true, true_and, and_false, false_and, eq_T, eq_F, lt_T, lt_F, le_T, le_F, qn_T, qn_F, and_F, b01_T, b01_F, e_isIn, Int32.toInt_toInt64, am_i_toInt, am_l_toInt, Int.toNat_natCast, Int.reduceToNat, Int.reduceAdd, Int.reduceSub, Int.reduceMul, Int.reduceNeg, Nat.reduceAdd, Nat.reduceMul, Nat.add_zero, Nat.mul_zero, Nat.zero_add, am_zb0, am_zb1, h5]
theorem m_110 (hm : st_Rm R) : ∀ (f i p : Nat) (X : sSt) (I : tI) (J : tJ), 1 ≤ i → i ≤ 80 → i + f = 82 → txM T n I → mrX T n p I → mCh X I J → sOK n p i X → I 64 49 = am_i i → ∃ I' J', am_E (d + 13) 189 110 [(0, .ref 64)] [] (I, J, R, 138) = am_E (d + 13) 189 132 [(0, .ref 64)] [] (I', J', R, 138) ∧ mZ (sdLo T n f i p X) I' J' ∧ mGg I I' ∧ mK J J'
  | 0, i, p, X, I, J, h1, h80, hf, hT, hR, hX, hO, h49 => by omega
  | f + 1, i, p, X, I, J, h1, h80, hf, hT, hR, hX, hO, h49 => by
    have hp : p ≤ n := hO.1.2.2.2.2.2.2.2.2
    have n16 := hT.1
    have hTa := txM_a (p := p) hT
    have hRa := mrX_a hR hp
    have lk := fun d => e_look (d := d) (J := J) hm hT hp hR
    have tb := tC_b (T := T) (n := n) (p := p) (fun k hk => (hT.2.1 k hk).1)
    have h5 := hR.2.1
    have Ga : mGg I (atP T n p I) := fun q j e1 e2 => atP_o (by unfold mW at e1; omega)
    unfold sdLo
    by_cases k0 : tK T n p = 0
    · have qc : tC T n p = -1 := tC_0.mpr k0
      rw [if_pos k0]
      refine ⟨atP T n p I, J, ?_, ⟨fun _ => ⟨hRa.2.1, mrX_6 hRa, mCh_c hX (fun q j e => atP_o (by omega)) (fun _ => rfl), by rw [atP_o (by omega)]; exact h49⟩, fun e => absurd rfl e⟩, Ga, fun _ _ _ => rfl⟩
      rw [sg_X12_sound_110]
      simp (disch := first | assumption | omega) only [rM hm, ly_csm, ly_cam, ly_cf, ly_kd, ly_ln, ↓Bool.cond_decide, cond_true, cond_false, ↓bI_p, ↓bV_p, ↓bL_p, bIJ_s, bVJ_s, bLJ_s, ↓am_let_s, Nat.blt, Nat.ble, Bool.and_true, Bool.true_and, Bool.and_self, Int.cast_ofNat_Int, am_i_add, am_i_sub, am_i_mul, am_ok_i, am_i_cl, n_lt, n_le, n_eq, n_lt0, n_le0, n_0lt, n_0le, n_eq0, ne_eq, ↓reduceIte, not_true_eq_false, not_false_eq_true, and_true, true_and, and_false, false_and, eq_T, eq_F, lt_T, lt_F, le_T, le_F, qn_T, qn_F, and_F, b01_T, b01_F, e_isIn, Int32.toInt_toInt64, am_i_toInt, am_l_toInt, Int.toNat_natCast, Int.reduceToNat, Int.reduceAdd, Int.reduceSub, Int.reduceMul, Int.reduceNeg, Nat.reduceAdd, Nat.reduceMul, Nat.add_zero, Nat.mul_zero, Nat.zero_add, am_zb0, am_zb1, h5, lk, qc]
    · have qc : ¬ tC T n p = -1 := fun c => k0 (tC_0.mp c)
      rw [if_neg k0]
      by_cases i80 : i = 80
      · rw [if_pos i80]
        subst i80
        have e49 : atP T n p I 64 49 = am_i 80 := by rw [atP_o (by omega)]; exact h49
        have a2 : atP T n p I 64 2 = am_i (tAt T n p) := atP_2
        obtain ⟨I1, a1, a3, a4⟩ := m_rF (J := J) (c := 5) (pl := tAt T n p) hm (mR_0 hRa hp) rfl (by decide) (by decide)
        have a1' : ∀ d, am_E (d + 1) 167 0 [(0, .ref 64), (1, .int (am_i 5)), (2, .int (am_i (tAt T n p)))] [] (atP T n p I, J, R, 138) = some (none, (I1, J, R, 138)) := a1
        have s8 : ∀ d, am_E (d + 2) 188 0 [(0, .ref 64)] [] (atP T n p I, J, R, 138) = some (none, (I1, J, R, 138)) := fun d => by
          rw [sg_X12_statementTold_0]
          simp (disch := first | assumption | omega) only [rM hm, ly_csm, ly_cam, ly_cf, ly_kd, ly_ln, ↓Bool.cond_decide, cond_true, cond_false, ↓bI_p, ↓bV_p, ↓bL_p, bIJ_s, bVJ_s, bLJ_s, ↓am_let_s, Nat.blt, Nat.ble, Bool.and_true, Bool.true_and, Bool.and_self, Int.cast_ofNat_Int, am_i_add, am_i_sub, am_i_mul, am_ok_i, am_i_cl, n_lt, n_le, n_eq, n_lt0, n_le0, n_0lt, n_0le, n_eq0, ne_eq, ↓reduceIte, not_true_eq_false, not_false_eq_true, and_true, true_and, and_false, false_and, eq_T, eq_F, lt_T, lt_F, le_T, le_F, qn_T, qn_F, and_F, b01_T, b01_F, e_isIn, Int32.toInt_toInt64, am_i_toInt, am_l_toInt, Int.toNat_natCast, Int.reduceToNat, Int.reduceAdd, Int.reduceSub, Int.reduceMul, Int.reduceNeg, Nat.reduceAdd, Nat.reduceMul, Nat.add_zero, Nat.mul_zero, Nat.zero_add, am_zb0, am_zb1, e49, a2, a1']
        have nx := m_110F (d := d + 12) (J := J) (R := R) hm a3 (by show ¬ ((5 : Nat) = 0); decide)
        refine ⟨I1, J, ?_, ⟨fun e => absurd e (by show ¬ ((5 : Nat) = 0); decide), fun _ => a3.2 (by show ¬ ((5 : Nat) = 0); decide)⟩, mGg_t Ga (fun q j e1 e2 => a4 q j (by unfold mW at e1; unfold mlC; omega)), fun _ _ _ => rfl⟩
        rw [← nx]
        conv => lhs; rw [sg_X12_sound_110]
        simp (disch := first | assumption | omega) only [rM hm, ly_csm, ly_cam, ly_cf, ly_kd, ly_ln, ↓Bool.cond_decide, cond_true, cond_false, ↓bI_p, ↓bV_p, ↓bL_p, bIJ_s, bVJ_s, bLJ_s, ↓am_let_s, Nat.blt, Nat.ble, Bool.and_true, Bool.true_and, Bool.and_self, Int.cast_ofNat_Int, am_i_add, am_i_sub, am_i_mul, am_ok_i, am_i_cl, n_lt, n_le, n_eq, n_lt0, n_le0, n_0lt, n_0le, n_eq0, ne_eq, ↓reduceIte, not_true_eq_false, not_false_eq_true, and_true, true_and, and_false, false_and, eq_T, eq_F, lt_T, lt_F, le_T, le_F, qn_T, qn_F, and_F, b01_T, b01_F, e_isIn, Int32.toInt_toInt64, am_i_toInt, am_l_toInt, Int.toNat_natCast, Int.reduceToNat, Int.reduceAdd, Int.reduceSub, Int.reduceMul, Int.reduceNeg, Nat.reduceAdd, Nat.reduceMul, Nat.add_zero, Nat.mul_zero, Nat.zero_add, am_zb0, am_zb1, h5, lk, s8]
      · rw [if_neg i80]
        obtain ⟨I1, J1, b1, b2, b3, b4, b5, b6, b7⟩ := m_stmt (d := d) hm hT hR hX hO h49 (by omega)
        have b1' : am_E (d + 12) 188 0 [(0, .ref 64)] [] (atP T n p I, J, R, 138) = _ := b1
        have step : am_E (d + 13) 189 110 [(0, .ref 64)] [] (I, J, R, 138) = am_E (d + 13) 189 110 [(0, .ref 64)] [] (I1, J1, R, 138) := by
          conv => lhs; rw [sg_X12_sound_110]
          simp (disch := first | assumption | omega) only [rM hm, ly_csm, ly_cam, ly_cf, ly_kd, ly_ln, ↓Bool.cond_decide, cond_true, cond_false, ↓bI_p, ↓bV_p, ↓bL_p, bIJ_s, bVJ_s, bLJ_s, ↓am_let_s, Nat.blt, Nat.ble, Bool.and_true, Bool.true_and, Bool.and_self, Int.cast_ofNat_Int, am_i_add, am_i_sub, am_i_mul, am_ok_i, am_i_cl, n_lt, n_le, n_eq, n_lt0, n_le0, n_0lt, n_0le, n_eq0, ne_eq, ↓reduceIte, not_true_eq_false, not_false_eq_true, and_true, true_and, and_false, false_and, eq_T, eq_F, lt_T, lt_F, le_T, le_F, qn_T, qn_F, and_F, b01_T, b01_F, e_isIn, Int32.toInt_toInt64, am_i_toInt, am_l_toInt, Int.toNat_natCast, Int.reduceToNat, Int.reduceAdd, Int.reduceSub, Int.reduceMul, Int.reduceNeg, Nat.reduceAdd, Nat.reduceMul, Nat.add_zero, Nat.mul_zero, Nat.zero_add, am_zb0, am_zb1, h5, lk, b1']
        have bad : ∀ e pl : Nat, e ≠ 0 → mR T n (e, pl) I1 → ∃ I' J', am_E (d + 13) 189 110 [(0, .ref 64)] [] (I, J, R, 138) = am_E (d + 13) 189 132 [(0, .ref 64)] [] (I', J', R, 138) ∧ mZ (e, pl, X) I' J' ∧ mGg I I' ∧ mK J J' := fun e pl he hr => ⟨I1, J1, by rw [step]; exact m_110F (d := d + 12) hm hr he, ⟨fun z => absurd z he, fun _ => hr.2 he⟩, b6, b7⟩
        by_cases q : (sdSt T n X p).1 = 0
        · rw [if_pos q]
          obtain ⟨o1, o2⟩ := sOK_st hO q
          have ob := o2.1.2.2.2.2.2.2.2.2
          have q' : ((sdSt T n X p).1, (sdSt T n X p).2.1).1 = 0 := q
          rw [rS_0 q'] at b2
          have b2' : mR T n (aS T n (sdSt T n X p).2.1 59) I1 := b2
          have sb := aS_b (T := T) (c := 59) ob
          by_cases q2 : (aS T n (sdSt T n X p).2.1 59).1 = 0
          · rw [sI_0 q2]
            obtain ⟨s1', s2', s3', s4'⟩ := sb.1 q2
            obtain ⟨I', J', r1, r2, r3, r4⟩ := m_110 hm f (i + 1) _ _ I1 J1 (by omega) (by omega) (by omega) b5 (b2'.1 q2).1 (b3 q) (sOK_m o2 (by omega) s4') b4
            exact ⟨I', J', by rw [step]; exact r1, r2, mGg_t b6 r3, mK_t b7 r4⟩
          · rw [sI_n q2]
            exact bad _ _ q2 b2'
        · rw [if_neg q]
          have q' : ((sdSt T n X p).1, (sdSt T n X p).2.1).1 ≠ 0 := q
          rw [rS_n q'] at b2
          exact bad _ _ q b2
/-- the loops that make room for a sound -/
theorem m_81 (hm : st_Rm R) {I0 : tI} : ∀ (m j : Nat) (I : tI), j + m = 488 → (∀ k, k < j → I 99 k = am_i 0) → (∀ q k, ¬ (q = 99 ∧ k < 488) → I q k = I0 q k) → ∃ I', am_E (d + 1) 189 81 [(0, .ref 64), (1, .int (am_i j))] [] (I, J, R, 138) = am_E (d + 1) 189 81 [(0, .ref 64), (1, .int (am_i 488))] [] (I', J, R, 138) ∧ (∀ k, k < 488 → I' 99 k = am_i 0) ∧ ∀ q k, ¬ (q = 99 ∧ k < 488) → I' q k = I0 q k
  | 0, j, I, hj, hz, hI => by
    obtain rfl : j = 488 := by omega
    exact ⟨I, rfl, hz, hI⟩
  | m + 1, j, I, hj, hz, hI => by
    obtain ⟨I', r1, r2, r3⟩ := m_81 (I0 := I0) hm m (j + 1) (am_up I 99 j (am_i 0)) (by omega) (fun k hk => by
      by_cases z : k = j
      · rw [z, am_up_e]
      · rw [am_up_o (by omega)]; exact hz k (by omega)) (fun q k e => by rw [am_up_o (by omega)]; exact hI q k e)
    refine ⟨I', ?_, r2, r3⟩
    rw [← r1]
    conv => lhs; rw [sg_X12_sound_81]
    simp (disch := first | assumption | omega) only [rM hm, ly_csm, ly_cam, ly_cf, ly_kd, ly_ln, ↓Bool.cond_decide, cond_true, cond_false, ↓bI_p, ↓bV_p, ↓bL_p, bIJ_s, bVJ_s, bLJ_s, ↓am_let_s, Nat.blt, Nat.ble, Bool.and_true, Bool.true_and, Bool.and_self, Int.cast_ofNat_Int, am_i_add, am_i_sub, am_i_mul, am_ok_i, am_i_cl, n_lt, n_le, n_eq, n_lt0, n_le0, n_0lt, n_0le, n_eq0, ne_eq, ↓reduceIte, not_true_eq_false, not_false_eq_true, and_true, true_and, and_false, false_and, eq_T, eq_F, lt_T, lt_F, le_T, le_F, qn_T, qn_F, and_F, b01_T, b01_F, e_isIn, Int32.toInt_toInt64, am_i_toInt, am_l_toInt, Int.toNat_natCast, Int.reduceToNat, Int.reduceAdd, Int.reduceSub, Int.reduceMul, Int.reduceNeg, Nat.reduceAdd, Nat.reduceMul, Nat.add_zero, Nat.mul_zero, Nat.zero_add, am_zb0, am_zb1, am_i_s]
/-- the memory in which a sound is read, but for its wolves -/
def ssI (I : tI) (n : Nat) : tI := am_up (am_up (am_up (am_up (am_up (am_up (am_up I 64 3 (am_i n)) 64 1 (am_i 0)) 64 2 (am_i 0)) 64 4 (am_i (-1))) 64 5 (am_i 0)) 64 6 (am_i (-1))) 64 48 (am_i 0)
def ssI2 (I : tI) : tI := am_up (am_up (am_up (am_up (am_up (am_up (am_up (am_up I 94 0 (am_i 0)) 100 0 (am_i (-1))) 94 1 (am_i 0)) 100 1 (am_i (-1))) 94 2 (am_i 0)) 100 2 (am_i (-1))) 93 1 (am_i 0)) 93 2 (am_i 0)
theorem ssI_o {q k : Nat} (h : ¬ (q = 64 ∧ (k = 1 ∨ k = 2 ∨ k = 3 ∨ k = 4 ∨ k = 5 ∨ k = 6 ∨ k = 48))) : ssI I n q k = I q k := by
  unfold ssI
  rw [am_up_o (by omega), am_up_o (by omega), am_up_o (by omega), am_up_o (by omega), am_up_o (by omega), am_up_o (by omega), am_up_o (by omega)]
theorem ssI_v : ssI I n 64 3 = am_i n ∧ ssI I n 64 1 = am_i 0 ∧ ssI I n 64 2 = am_i 0 ∧ ssI I n 64 4 = am_i (-1) ∧ ssI I n 64 5 = am_i 0 ∧ ssI I n 64 6 = am_i (-1) ∧ ssI I n 64 48 = am_i 0 := by
  unfold ssI
  refine ⟨?_, ?_, ?_, ?_, ?_, ?_, ?_⟩
  all_goals simp (disch := omega) only [am_up_o, am_up_e]
theorem ssI2_o {q k : Nat} (h : ¬ (q = 94 ∧ k < 3)) (h2 : ¬ (q = 100 ∧ k < 3)) (h3 : ¬ (q = 93 ∧ (k = 1 ∨ k = 2))) : ssI2 I q k = I q k := by
  unfold ssI2
  rw [am_up_o (by omega), am_up_o (by omega), am_up_o (by omega), am_up_o (by omega), am_up_o (by omega), am_up_o (by omega), am_up_o (by omega), am_up_o (by omega)]
theorem ssI2_v : ssI2 I 94 0 = am_i 0 ∧ ssI2 I 94 1 = am_i 0 ∧ ssI2 I 94 2 = am_i 0 ∧ ssI2 I 100 0 = am_i (-1) ∧ ssI2 I 100 1 = am_i (-1) ∧ ssI2 I 100 2 = am_i (-1) ∧ ssI2 I 93 1 = am_i 0 ∧ ssI2 I 93 2 = am_i 0 := by
  unfold ssI2
  refine ⟨?_, ?_, ?_, ?_, ?_, ?_, ?_, ?_⟩
  all_goals simp (disch := omega) only [am_up_o, am_up_e]
/-- down to the end of the text -/
theorem m_read (hm : st_Rm R) (hT : txM T n I) (h1 : I 64 1 = am_i n) : ∃ I' J', am_E (d + 13) 189 0 [(0, .ref 64)] [] (I, J, R, 138) = am_E (d + 13) 189 132 [(0, .ref 64)] [] (I', J', R, 138) ∧ mZ (sdAll T n) I' J' ∧ I' 64 1 = am_i 0 ∧ (∀ q j, ¬ mW q j → ¬ (q = 64 ∧ (j = 1 ∨ j = 3 ∨ j = 49)) → I' q j = I q j) ∧ mK J J' := by
  have n16 := hT.1
  obtain ⟨v3, v1, v2, v4, v5, v6, v48⟩ := ssI_v (I := I) (n := n)
  obtain ⟨y0, y1, y2, y3, y4, y5, y6, y7⟩ := ssI2_v (I := ssI I n)
  have o2 : ∀ q k, ¬ (q = 94 ∧ k < 3) → ¬ (q = 100 ∧ k < 3) → ¬ (q = 93 ∧ (k = 1 ∨ k = 2)) → ¬ (q = 64 ∧ (k = 1 ∨ k = 2 ∨ k = 3 ∨ k = 4 ∨ k = 5 ∨ k = 6 ∨ k = 48)) → ssI2 (ssI I n) q k = I q k := fun q k a b c e => by rw [ssI2_o a b c, ssI_o e]
  obtain ⟨K3, a1, a2, a3⟩ := m_81 (d := d + 12) (J := J) (R := R) hm (I0 := ssI2 (ssI I n)) 488 0 (ssI2 (ssI I n)) (by omega) (fun k hk => absurd hk (Nat.not_lt_zero _)) (fun _ _ _ => rfl)
  have a1' : am_E (d + 13) 189 81 [(0, .ref 64), (1, .int (am_i 0))] [] (ssI2 (ssI I n), J, R, 138) = am_E (d + 13) 189 81 [(0, .ref 64), (1, .int (am_i 488))] [] (K3, J, R, 138) := a1
  have st : am_E (d + 13) 189 0 [(0, .ref 64)] [] (I, J, R, 138) = am_E (d + 13) 189 81 [(0, .ref 64), (1, .int (am_i 488))] [] (K3, J, R, 138) := by
    rw [← a1', sg_X12_sound_0]
    simp (disch := first | assumption | omega) only [rM hm, ly_csm, ly_cam, ly_cf, ly_kd, ly_ln, ↓Bool.cond_decide, cond_true, cond_false, ↓bI_p, ↓bV_p, ↓bL_p, bIJ_s, bVJ_s, bLJ_s, ↓am_let_s, Nat.blt, Nat.ble, Bool.and_true, Bool.true_and, Bool.and_self, Int.cast_ofNat_Int, am_i_add, am_i_sub, am_i_mul, am_ok_i, am_i_cl, n_lt, n_le, n_eq, n_lt0, n_le0, n_0lt, n_0le, n_eq0, ne_eq, ↓reduceIte, not_true_eq_false, not_false_eq_true, and_true, true_and, and_false, false_and, eq_T, eq_F, lt_T, lt_F, le_T, le_F, qn_T, qn_F, and_F, b01_T, b01_F, e_isIn, Int32.toInt_toInt64, am_i_toInt, am_l_toInt, Int.toNat_natCast, Int.reduceToNat, Int.reduceAdd, Int.reduceSub, Int.reduceMul, Int.reduceNeg, Nat.reduceAdd, Nat.reduceMul, Nat.add_zero, Nat.mul_zero, Nat.zero_add, am_zb0, am_zb1, h1]
    rw [show am_up (am_up (am_up (am_up (am_up (am_up (am_up I 64 3 (am_i n)) 64 1 (am_i 0)) 64 2 (am_i 0)) 64 4 (am_i (-1))) 64 5 (am_i 0)) 64 6 (am_i (-1))) 64 48 (am_i 0) = ssI I n from rfl]
    rw [sg_X12_sound_40]
    simp (disch := first | assumption | omega) only [rM hm, ly_csm, ly_cam, ly_cf, ly_kd, ly_ln, ↓Bool.cond_decide, cond_true, cond_false, ↓bI_p, ↓bV_p, ↓bL_p, bIJ_s, bVJ_s, bLJ_s, ↓am_let_s, Nat.blt, Nat.ble, Bool.and_true, Bool.true_and, Bool.and_self, Int.cast_ofNat_Int, am_i_add, am_i_sub, am_i_mul, am_ok_i, am_i_cl, n_lt, n_le, n_eq, n_lt0, n_le0, n_0lt, n_0le, n_eq0, ne_eq, ↓reduceIte, not_true_eq_false, not_false_eq_true, and_true, true_and, and_false, false_and, eq_T, eq_F, lt_T, lt_F, le_T, le_F, qn_T, qn_F, and_F, b01_T, b01_F, e_isIn, Int32.toInt_toInt64, am_i_toInt, am_l_toInt, Int.toNat_natCast, Int.reduceToNat, Int.reduceAdd, Int.reduceSub, Int.reduceMul, Int.reduceNeg, Nat.reduceAdd, Nat.reduceMul, Nat.add_zero, Nat.mul_zero, Nat.zero_add, am_zb0, am_zb1]
    rw [sg_X12_sound_40]
    simp (disch := first | assumption | omega) only [rM hm, ly_csm, ly_cam, ly_cf, ly_kd, ly_ln, ↓Bool.cond_decide, cond_true, cond_false, ↓bI_p, ↓bV_p, ↓bL_p, bIJ_s, bVJ_s, bLJ_s, ↓am_let_s, Nat.blt, Nat.ble, Bool.and_true, Bool.true_and, Bool.and_self, Int.cast_ofNat_Int, am_i_add, am_i_sub, am_i_mul, am_ok_i, am_i_cl, n_lt, n_le, n_eq, n_lt0, n_le0, n_0lt, n_0le, n_eq0, ne_eq, ↓reduceIte, not_true_eq_false, not_false_eq_true, and_true, true_and, and_false, false_and, eq_T, eq_F, lt_T, lt_F, le_T, le_F, qn_T, qn_F, and_F, b01_T, b01_F, e_isIn, Int32.toInt_toInt64, am_i_toInt, am_l_toInt, Int.toNat_natCast, Int.reduceToNat, Int.reduceAdd, Int.reduceSub, Int.reduceMul, Int.reduceNeg, Nat.reduceAdd, Nat.reduceMul, Nat.add_zero, Nat.mul_zero, Nat.zero_add, am_zb0, am_zb1]
    rw [sg_X12_sound_40]
    simp (disch := first | assumption | omega) only [rM hm, ly_csm, ly_cam, ly_cf, ly_kd, ly_ln, ↓Bool.cond_decide, cond_true, cond_false, ↓bI_p, ↓bV_p, ↓bL_p, bIJ_s, bVJ_s, bLJ_s, ↓am_let_s, Nat.blt, Nat.ble, Bool.and_true, Bool.true_and, Bool.and_self, Int.cast_ofNat_Int, am_i_add, am_i_sub, am_i_mul, am_ok_i, am_i_cl, n_lt, n_le, n_eq, n_lt0, n_le0, n_0lt, n_0le, n_eq0, ne_eq, ↓reduceIte, not_true_eq_false, not_false_eq_true, and_true, true_and, and_false, false_and, eq_T, eq_F, lt_T, lt_F, le_T, le_F, qn_T, qn_F, and_F, b01_T, b01_F, e_isIn, Int32.toInt_toInt64, am_i_toInt, am_l_toInt, Int.toNat_natCast, Int.reduceToNat, Int.reduceAdd, Int.reduceSub, Int.reduceMul, Int.reduceNeg, Nat.reduceAdd, Nat.reduceMul, Nat.add_zero, Nat.mul_zero, Nat.zero_add, am_zb0, am_zb1]
    rw [sg_X12_sound_40]
    simp (disch := first | assumption | omega) only [rM hm, ly_csm, ly_cam, ly_cf, ly_kd, ly_ln, ↓Bool.cond_decide, cond_true, cond_false, ↓bI_p, ↓bV_p, ↓bL_p, bIJ_s, bVJ_s, bLJ_s, ↓am_let_s, Nat.blt, Nat.ble, Bool.and_true, Bool.true_and, Bool.and_self, Int.cast_ofNat_Int, am_i_add, am_i_sub, am_i_mul, am_ok_i, am_i_cl, n_lt, n_le, n_eq, n_lt0, n_le0, n_0lt, n_0le, n_eq0, ne_eq, ↓reduceIte, not_true_eq_false, not_false_eq_true, and_true, true_and, and_false, false_and, eq_T, eq_F, lt_T, lt_F, le_T, le_F, qn_T, qn_F, and_F, b01_T, b01_F, e_isIn, Int32.toInt_toInt64, am_i_toInt, am_l_toInt, Int.toNat_natCast, Int.reduceToNat, Int.reduceAdd, Int.reduceSub, Int.reduceMul, Int.reduceNeg, Nat.reduceAdd, Nat.reduceMul, Nat.add_zero, Nat.mul_zero, Nat.zero_add, am_zb0, am_zb1]
    rfl
  have k3 : ∀ q k, ¬ (q = 99 ∧ k < 488) → K3 q k = ssI2 (ssI I n) q k := a3
  have k64 : ∀ k, K3 64 k = ssI I n 64 k := fun k => by rw [k3 _ _ (by omega), ssI2_o (by omega) (by omega) (by omega)]
  have T3 : txM T n K3 := txM_c hT (fun q k e => by
    have : q ≠ 64 ∧ q ≠ 93 ∧ q ≠ 94 ∧ q ≠ 99 ∧ q ≠ 100 := by
      rcases e with e | e
      · omega
      · refine ⟨fix_n e, ?_⟩
        unfold fixd at e; simp at e; omega
    rw [k3 _ _ (by omega), o2 q k (by omega) (by omega) (by omega) (by omega)])
  have R3 : mrX T n 0 K3 := mrX_0 (by rw [k64]; exact v2) (by rw [k64]; exact v3) (by rw [k64]; exact v4) (by rw [k64]; exact v5) (by rw [k64]; exact v6)
  obtain ⟨r1, hr1⟩ : ∃ r1, r1 = aW T n 0 0 := ⟨_, rfl⟩
  obtain ⟨r2, hr2⟩ : ∃ r2, r2 = rS r1 (fun p => aN T n p 5 60) := ⟨_, rfl⟩
  obtain ⟨r3, hr3⟩ : ∃ r3, r3 = rS r2 (fun p => aS T n p 59) := ⟨_, rfl⟩
  obtain ⟨ch, ok⟩ := sdFi_e hr1 hr2 hr3
  obtain ⟨I4, b1, b2, b3⟩ := m_rW (d := d + 7) (J := J) hm T3 (mR_0 R3 (by omega)) (q := 67) (w := 0) (by decide) (by decide)
  rw [rS_0 rfl] at b2
  have b2' : mR T n r1 I4 := by rw [hr1]; exact b2
  have b1' : am_E (d + 11) 173 0 [(0, .ref 64), (1, .ref 67)] [] (K3, J, R, 138) = _ := b1
  have T4 := txM_m T3 b3
  obtain ⟨v, I5, c1, c2, c4, c5⟩ := m_rN (d := d + 8) (J := J) hm T4 b2' (lo := 5) (hi := 60) (by omega) (by omega)
  rw [← hr2] at c2 c4
  have c1' : am_E (d + 11) 176 0 [(0, .ref 64), (1, .int (am_i 5)), (2, .int (am_i 60))] [] (I4, J, R, 138) = _ := c1
  obtain ⟨K6, hK6⟩ : ∃ K6, K6 = am_up I5 93 0 (am_i v) := ⟨_, rfl⟩
  have k6 : ∀ q j, ¬ mlC q j → ¬ (q = 93 ∧ j = 0) → K6 q j = K3 q j := fun q j e1 e2 => by rw [hK6, am_up_o e2, c5 q j e1, b3 q j e1]
  have T6 : txM T n K6 := txM_c T3 (fun q k e => by
    have : q ≠ 64 ∧ q ≠ 93 := by
      rcases e with e | e
      · omega
      · refine ⟨fix_n e, ?_⟩
        unfold fixd at e; simp at e; omega
    exact k6 q k (by unfold mlC; omega) (by omega))
  obtain ⟨I7, d1, d2, d3⟩ := m_rS (d := d + 8) (J := J) hm T6 (mR_c c4 (fun k hk => by rw [hK6, am_up_o (by omega)])) (c := 59) (by decide) (by decide) (by decide)
  rw [← hr3] at d2
  have d1' : am_E (d + 11) 175 0 [(0, .ref 64), (1, .int (am_i 59))] [] (K6, J, R, 138) = _ := d1
  have T7 := txM_m T6 d3
  have o7 : ∀ q j, ¬ mlC q j → ¬ (q = 93 ∧ j = 0) → I7 q j = K3 q j := fun q j e1 e2 => by rw [d3 q j e1, k6 q j e1 e2]
  obtain ⟨K8, hK8⟩ : ∃ K8, K8 = am_up I7 64 49 (am_i 1) := ⟨_, rfl⟩
  have k8 : ∀ q j, ¬ mlC q j → ¬ (q = 93 ∧ j = 0) → ¬ (q = 64 ∧ j = 49) → K8 q j = K3 q j := fun q j e1 e2 e3 => by rw [hK8, am_up_o e3, o7 q j e1 e2]
  have st2 : am_E (d + 13) 189 81 [(0, .ref 64), (1, .int (am_i 488))] [] (K3, J, R, 138) = am_E (d + 13) 189 110 [(0, .ref 64)] [] (K8, J, R, 138) := by
    have so : am_E (d + 12) 182 0 [(0, .ref 64)] [] (K3, J, R, 138) = some (none, (I7, J, R, 138)) := by
      rw [sg_X12_soundTold_0]
      simp (disch := first | assumption | omega) only [rM hm, ly_csm, ly_cam, ly_cf, ly_kd, ly_ln, ↓Bool.cond_decide, cond_true, cond_false, ↓bI_p, ↓bV_p, ↓bL_p, bIJ_s, bVJ_s, bLJ_s, ↓am_let_s, Nat.blt, Nat.ble, Bool.and_true, Bool.true_and, Bool.and_self, Int.cast_ofNat_Int, am_i_add, am_i_sub, am_i_mul, am_ok_i, am_i_cl, n_lt, n_le, n_eq, n_lt0, n_le0, n_0lt, n_0le, n_eq0, ne_eq, ↓reduceIte, not_true_eq_false, not_false_eq_true, and_true, true_and, and_false, false_and, eq_T, eq_F, lt_T, lt_F, le_T, le_F, qn_T, qn_F, and_F, b01_T, b01_F, e_isIn, Int32.toInt_toInt64, am_i_toInt, am_l_toInt, Int.toNat_natCast, Int.reduceToNat, Int.reduceAdd, Int.reduceSub, Int.reduceMul, Int.reduceNeg, Nat.reduceAdd, Nat.reduceMul, Nat.add_zero, Nat.mul_zero, Nat.zero_add, am_zb0, am_zb1, b1', c1', ← hK6, d1']
    conv => lhs; rw [sg_X12_sound_81]
    simp (disch := first | assumption | omega) only [rM hm, ly_csm, ly_cam, ly_cf, ly_kd, ly_ln, ↓Bool.cond_decide, cond_true, cond_false, ↓bI_p, ↓bV_p, ↓bL_p, bIJ_s, bVJ_s, bLJ_s, ↓am_let_s, Nat.blt, Nat.ble, Bool.and_true, Bool.true_and, Bool.and_self, Int.cast_ofNat_Int, am_i_add, am_i_sub, am_i_mul, am_ok_i, am_i_cl, n_lt, n_le, n_eq, n_lt0, n_le0, n_0lt, n_0le, n_eq0, ne_eq, ↓reduceIte, not_true_eq_false, not_false_eq_true, and_true, true_and, and_false, false_and, eq_T, eq_F, lt_T, lt_F, le_T, le_F, qn_T, qn_F, and_F, b01_T, b01_F, e_isIn, Int32.toInt_toInt64, am_i_toInt, am_l_toInt, Int.toNat_natCast, Int.reduceToNat, Int.reduceAdd, Int.reduceSub, Int.reduceMul, Int.reduceNeg, Nat.reduceAdd, Nat.reduceMul, Nat.add_zero, Nat.mul_zero, Nat.zero_add, am_zb0, am_zb1, so, ← hK8]
  have R8 : mR T n r3 K8 := mR_c d2 (fun k hk => by rw [hK8, am_up_o (by omega)])
  have T8 : txM T n K8 := txM_c T7 (fun q k e => by
    have : q ≠ 64 := by
      rcases e with e | e
      · omega
      · exact fix_n e
    rw [hK8, am_up_o (by omega)])
  have fr8 : ∀ q j, ¬ mW q j → ¬ (q = 64 ∧ (j = 1 ∨ j = 3 ∨ j = 49)) → K8 q j = I q j := fun q j e1 e2 => by
    unfold mW at e1
    rw [k8 q j (by unfold mlC; omega) (by omega) (by omega), k3 q j (by omega), o2 q j (by omega) (by omega) (by omega) (by omega)]
  have e1 : K8 64 1 = am_i 0 := by rw [k8 _ _ (by unfold mlC; omega) (by omega) (by omega), k64]; exact v1
  rw [st, st2]
  by_cases q3 : r3.1 = 0
  · obtain ⟨q1, q2⟩ := ok q3
    have ef : sdFi T n = (0, r3.2, (tV T n r1.2, 0, 0, 0, 0, [], [], fun _ => 0, fun _ => none)) := by rw [ch, if_pos q3]
    have ea : sdAll T n = sdLo T n 81 1 r3.2 (tV T n r1.2, 0, 0, 0, 0, [], [], fun _ => 0, fun _ => none) := by
      unfold sdAll
      rw [ef]
      rfl
    have so := sOK_fi (T := T) (n := n) (by rw [ef])
    rw [ef] at so
    have g : ∀ q j, q ≠ 64 → ¬ (q = 93 ∧ j = 0) → K8 q j = K3 q j := fun q j z1 z2 => k8 q j (by unfold mlC; omega) z2 (by omega)
    have X8 : mCh (tV T n r1.2, 0, 0, 0, 0, [], [], fun _ => 0, fun _ => none) K8 J := by
      refine ⟨⟨?_, ?_, ?_, ?_, ?_, ?_⟩, fun b x hx => (by cases hx), fun r y hy => (by cases hy), fun m u hm hu => ?_, fun f hf => ⟨fun _ => ?_, fun a l h => (by cases h)⟩, ?_⟩
      · rw [hK8, am_up_o (by omega), d3 _ _ (by unfold mlC; omega), hK6, am_up_e, (c2 q2).1]
        rfl
      · rw [g _ _ (by omega) (by omega), k3 _ _ (by omega)]; exact y6
      · rw [g _ _ (by omega) (by omega), k3 _ _ (by omega)]; exact y7
      · rw [g _ _ (by omega) (by omega), k3 _ _ (by omega)]; exact y0
      · rw [g _ _ (by omega) (by omega), k3 _ _ (by omega)]; exact y1
      · rw [g _ _ (by omega) (by omega), k3 _ _ (by omega)]; exact y2
      · show K8 99 (8 * m + u) = am_i ((0 / 2 ^ u % 2 : Nat) : Int)
        rw [g _ _ (by omega) (by omega), a2 _ (by omega), Nat.zero_div]
        rfl
      · rw [g _ _ (by omega) (by omega), k3 _ _ (by omega)]
        have : f = 0 ∨ f = 1 ∨ f = 2 := by omega
        rcases this with rfl | rfl | rfl
        · exact y3
        · exact y4
        · exact y5
      · rw [k8 _ _ (by unfold mlC; omega) (by omega) (by omega), k64]; exact v48
    obtain ⟨I9, J9, f1, f2, f3, f4⟩ := m_110 (d := d) hm 81 1 r3.2 _ K8 J (by omega) (by omega) (by omega) T8 (R8.1 q3).1 X8 so (by rw [hK8, am_up_e]; rfl)
    rw [ea]
    exact ⟨I9, J9, f1, f2, by rw [f3 _ _ (by unfold mW; omega) (by omega)]; exact e1, fun q j z1 z2 => by rw [f3 q j z1 (by omega), fr8 q j z1 z2], f4⟩
  · have ef : sdFi T n = (r3.1, r3.2, sX0) := by rw [ch, if_neg q3]
    have ea : sdAll T n = (r3.1, r3.2, sX0) := by
      unfold sdAll
      rw [ef, if_neg q3]
    rw [ea]
    exact ⟨K8, J, m_110F (d := d + 12) hm R8 q3, ⟨fun e => absurd e q3, fun _ => R8.2 q3⟩, e1, fr8, fun _ _ _ => rfl⟩
end MLO
