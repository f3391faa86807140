/-! ===== statements: the reference; boat, rider ===== -/
section MBO
variable {d : Nat} {J J' : tJ} {R : tR} {T : Nat → Nat} {n p i : Nat} {I I' : tI} {r : Nat × Nat} {X : sSt}
theorem mR_0 (hR : mrX T n p I) (hp : p ≤ n) : mR T n (0, p) I := ⟨fun _ => ⟨hR, hp⟩, fun e => absurd rfl e⟩
theorem m_full (hm : st_Rm R) {a L pl : Nat} (ha : a ≤ 1) (hL : L ≤ 6) (h : mR T n (0, p) I) (h94 : I 94 a = am_i L) : (L = 6 → ∃ I', (∀ d, am_E (d + 2) 180 0 [(0, .ref 64), (1, .int (am_i a)), (2, .int (am_i 6)), (3, .int (am_i pl))] [] (I, J, R, 138) = some (some (.int (am_i 1)), (I', J, R, 138))) ∧ mR T n (5, pl) I' ∧ ∀ q k, ¬ mlC q k → I' q k = I q k) ∧ (L ≠ 6 → ∀ d, am_E (d + 2) 180 0 [(0, .ref 64), (1, .int (am_i a)), (2, .int (am_i 6)), (3, .int (am_i pl))] [] (I, J, R, 138) = some (some (.int (am_i 0)), (I, J, R, 138))) := by
  have h5 := (h.1 rfl).1.2.1
  refine ⟨fun e => ?_, fun e d => ?_⟩
  · subst e
    have h94' : I 94 a = am_i 6 := h94
    obtain ⟨I1, a1, a2, a3⟩ := m_rF (J := J) (c := 5) (pl := pl) hm h rfl (by decide) (by decide)
    have a1' : ∀ d, am_E (d + 1) 167 0 [(0, .ref 64), (1, .int (am_i 5)), (2, .int (am_i pl))] [] (I, J, R, 138) = some (none, (I1, J, R, 138)) := a1
    have f5 := mR_5 a2 (by show ¬ ((5 : Nat) = 0); decide)
    refine ⟨I1, fun d => ?_, a2, a3⟩
    rw [sg_X12_isFull_0]
    simp (disch := first | assumption | omega) only [rM hm, ly_csm, ly_cam, ly_cf, ly_kd, ly_ln, ↓Bool.cond_decide, cond_true, cond_false, ↓bI_p, ↓bV_p, ↓bL_p, bIJ_s, bVJ_s, bLJ_s, ↓am_let_s, Nat.blt, Nat.ble, Bool.and_true, Bool.true_and, Bool.and_self, Int.cast_ofNat_Int, am_i_add, am_i_sub, am_i_mul, am_ok_i, am_i_cl, n_lt, n_le, n_eq, n_lt0, n_le0, n_0lt, n_0le, n_eq0, ne_eq, ↓reduceIte, not_true_eq_false, not_false_eq_true, and_true, true_and, and_false, false_and, eq_T, eq_F, lt_T, lt_F, le_T, le_F, qn_T, qn_F, and_F, b01_T, b01_F, e_isIn, Int32.toInt_toInt64, am_i_toInt, am_l_toInt, Int.toNat_natCast, Int.reduceToNat, Int.reduceAdd, Int.reduceSub, Int.reduceMul, Int.reduceNeg, Nat.reduceAdd, Nat.reduceMul, Nat.add_zero, Nat.mul_zero, Nat.zero_add, am_zb0, am_zb1, h5, h94', a1', sg_X12_isFull_23, f5]
  · rw [sg_X12_isFull_0]
    simp (disch := first | assumption | omega) only [rM hm, ly_csm, ly_cam, ly_cf, ly_kd, ly_ln, ↓Bool.cond_decide, cond_true, cond_false, ↓bI_p, ↓bV_p, ↓bL_p, bIJ_s, bVJ_s, bLJ_s, ↓am_let_s, Nat.blt, Nat.ble, Bool.and_true, Bool.true_and, Bool.and_self, Int.cast_ofNat_Int, am_i_add, am_i_sub, am_i_mul, am_ok_i, am_i_cl, n_lt, n_le, n_eq, n_lt0, n_le0, n_0lt, n_0le, n_eq0, ne_eq, ↓reduceIte, not_true_eq_false, not_false_eq_true, and_true, true_and, and_false, false_and, eq_T, eq_F, lt_T, lt_F, le_T, le_F, qn_T, qn_F, and_F, b01_T, b01_F, e_isIn, Int32.toInt_toInt64, am_i_toInt, am_l_toInt, Int.toNat_natCast, Int.reduceToNat, Int.reduceAdd, Int.reduceSub, Int.reduceMul, Int.reduceNeg, Nat.reduceAdd, Nat.reduceMul, Nat.add_zero, Nat.mul_zero, Nat.zero_add, am_zb0, am_zb1, h5, h94, sg_X12_isFull_23]
theorem mCh_boat {b v2 v3 v4 : Nat} {l : List Nat} (h : mCh X I J) (hs6 : ∀ x ∈ X.bn, x.sc.length ≤ 6) (hb : b = X.bn.length) (hb6 : b < 6) (e1 : J' 95 b = am_l (pk27 l : Nat)) (e2 : I' 96 (4 * b) = am_i v2) (e3 : I' 96 (4 * b + 1) = am_i v3) (e4 : I' 96 (4 * b + 2) = am_i v4) (e4' : I' 96 (4 * b + 3) = am_i 0) (e5 : I' 94 0 = am_i (b + 1 : Nat)) (e : ∀ q j, ¬ mlC q j → ¬ (q = 96 ∧ 4 * b ≤ j ∧ j ≤ 4 * b + 3) → ¬ (q = 94 ∧ j = 0) → I' q j = I q j) (eJ : ∀ q j, ¬ (q = 95 ∧ j = b) → J' q j = J q j) : mCh (X.la, X.wd, X.sq, X.nw, X.sz, X.bn ++ [(l, v2, v3, v4, [])], X.rd, X.wf, X.fo) I' J' := by
  obtain ⟨⟨a0, a1, a2, a3, a4, a5⟩, hbn, hr, hw, hf, h8⟩ := h
  subst hb
  refine ⟨⟨?_, ?_, ?_, ?_, ?_, ?_⟩, fun b x hx => ?_, fun r y hy => ?_, fun m v hm hv => ?_, fun f hf3 => ⟨fun q => ?_, fun a l q => ?_⟩, ?_⟩
  · rw [e _ _ (by unfold mlC; omega) (by omega) (by omega)]; exact a0
  · rw [e _ _ (by unfold mlC; omega) (by omega) (by omega)]; exact a1
  · rw [e _ _ (by unfold mlC; omega) (by omega) (by omega)]; exact a2
  · rw [e5]
    show _ = am_i ((X.bn ++ [(l, v2, v3, v4, [])]).length : Nat)
    rw [List.length_append]; rfl
  · rw [e _ _ (by unfold mlC; omega) (by omega) (by omega)]; exact a4
  · rw [e _ _ (by unfold mlC; omega) (by omega) (by omega)]; exact a5
  · have hx' : (X.bn ++ [(l, v2, v3, v4, [])])[b]? = some x := hx
    by_cases q : b < X.bn.length
    · rw [List.getElem?_append_left q] at hx'
      obtain ⟨b1, b2, b3, b4, b5, b6⟩ := hbn b x hx'
      exact ⟨by rw [eJ _ _ (by omega)]; exact b1, by rw [e _ _ (by unfold mlC; omega) (by omega) (by omega)]; exact b2, by rw [e _ _ (by unfold mlC; omega) (by omega) (by omega)]; exact b3, by rw [e _ _ (by unfold mlC; omega) (by omega) (by omega)]; exact b4, by rw [e _ _ (by unfold mlC; omega) (by omega) (by omega)]; exact b5, fun k v hv => by
        rw [e _ _ (by unfold mlC; omega) (by omega) (by omega)]
        exact b6 k v hv⟩
    · rw [List.getElem?_append_right (by omega)] at hx'
      have hk0 : b - X.bn.length = 0 := by
        cases hk : b - X.bn.length with
        | zero => rfl
        | succ m => rw [hk] at hx'; simp at hx'
      rw [hk0] at hx'
      have ex : (l, v2, v3, v4, ([] : List Nat)) = x := by simpa using hx'
      subst ex
      obtain rfl : b = X.bn.length := by omega
      exact ⟨e1, e2, e3, e4, e4', fun k v hv => (by cases hv)⟩
  · rw [eJ _ _ (by omega), e _ _ (by unfold mlC; omega) (by omega) (by omega)]
    exact hr r y hy
  · rw [e _ _ (by unfold mlC; omega) (by omega) (by omega)]; exact hw m v hm hv
  · rw [e _ _ (by unfold mlC; omega) (by omega) (by omega)]
    exact (hf f hf3).1 q
  · obtain ⟨c1, c2, c3⟩ := (hf f hf3).2 a l q
    exact ⟨by rw [e _ _ (by unfold mlC; omega) (by omega) (by omega)]; exact c1, by rw [e _ _ (by unfold mlC; omega) (by omega) (by omega)]; exact c2, fun k t ht => by rw [e _ _ (by unfold mlC; omega) (by omega) (by omega)]; exact c3 k t ht⟩
  · rw [e _ _ (by unfold mlC; omega) (by omega) (by omega)]; exact h8
theorem m_boat (hm : st_Rm R) (hT : txM T n I) (hR : mrX T n (tE T n p) I) (hte : tE T n p ≤ n) (hX : mCh X I J) (hO : sOK n p i X) : ∃ I' J', am_E (d + 6) 183 0 [(0, .ref 64), (1, .int (am_i (tAt T n p)))] [] (I, J, R, 138) = some (none, (I', J', R, 138)) ∧ mQ T n (sdBoat T n X p) I' J' ∧ mF I I' ∧ mK J J' := by
  have b6 := hO.1.2.2.2.2.2.1
  have la60 := hO.1.2.1
  have i1 := hX.1.2.2.2.1
  have r0 := mR_0 hR hte
  have fu := m_full (J := J) (pl := tAt T n p) hm (a := 0) (by omega) b6 r0 i1
  by_cases full : X.bn.length = 6
  · obtain ⟨I1, a1, a2, a3⟩ := fu.1 full
    have a1' : ∀ d, am_E (d + 2) 180 0 [(0, .ref 64), (1, .int (am_i 0)), (2, .int (am_i 6)), (3, .int (am_i (tAt T n p)))] [] (I, J, R, 138) = some (some (.int (am_i 1)), (I1, J, R, 138)) := a1
    have ed : sdBoat T n X p = (5, tAt T n p, X) := if_pos full
    rw [ed]
    refine ⟨I1, J, ?_, ⟨a2, fun e => absurd e (by show ¬ ((5 : Nat) = 0); decide)⟩, mF_m a3, fun _ _ _ => rfl⟩
    rw [sg_X12_boatTold_0]
    simp (disch := first | assumption | omega) only [rM hm, ly_csm, ly_cam, ly_cf, ly_kd, ly_ln, ↓Bool.cond_decide, cond_true, cond_false, ↓bI_p, ↓bV_p, ↓bL_p, bIJ_s, bVJ_s, bLJ_s, ↓am_let_s, Nat.blt, Nat.ble, Bool.and_true, Bool.true_and, Bool.and_self, Int.cast_ofNat_Int, am_i_add, am_i_sub, am_i_mul, am_ok_i, am_i_cl, n_lt, n_le, n_eq, n_lt0, n_le0, n_0lt, n_0le, n_eq0, ne_eq, ↓reduceIte, not_true_eq_false, not_false_eq_true, and_true, true_and, and_false, false_and, eq_T, eq_F, lt_T, lt_F, le_T, le_F, qn_T, qn_F, and_F, b01_T, b01_F, e_isIn, Int32.toInt_toInt64, am_i_toInt, am_l_toInt, Int.toNat_natCast, Int.reduceToNat, Int.reduceAdd, Int.reduceSub, Int.reduceMul, Int.reduceNeg, Nat.reduceAdd, Nat.reduceMul, Nat.add_zero, Nat.mul_zero, Nat.zero_add, am_zb0, am_zb1, a1']
  · have a1 := fu.2 full
    have a1' : ∀ d, am_E (d + 2) 180 0 [(0, .ref 64), (1, .int (am_i 0)), (2, .int (am_i 6)), (3, .int (am_i (tAt T n p)))] [] (I, J, R, 138) = some (some (.int (am_i 0)), (I, J, R, 138)) := a1
    obtain ⟨v1, I2, b1, b2, b3, b4⟩ := m_newName (d := d) hm hte hT hR hX hO
    obtain ⟨r2, hr2⟩ : ∃ r2, r2 = aK T n (tE T n p) X := ⟨_, rfl⟩
    rw [← hr2] at b2 b3
    have T2 := txM_m hT b4
    obtain ⟨I3, c1, c2, c3⟩ := m_rW (d := d + 1) (J := J) hm T2 b3 (q := 69) (w := 2) (by decide) (by decide)
    obtain ⟨r3, hr3⟩ : ∃ r3, r3 = rS r2 (fun p => aW T n p 2) := ⟨_, rfl⟩
    rw [← hr3] at c2
    have T3 := txM_m T2 c3
    obtain ⟨v2, I4, d1, d2, d4, d5⟩ := m_rN (d := d + 2) (J := J) hm T3 c2 (lo := 0) (hi := X.la) (by omega) (by omega)
    obtain ⟨r4, hr4⟩ : ∃ r4, r4 = rS r3 (fun p => aN T n p 0 X.la) := ⟨_, rfl⟩
    rw [← hr4] at d2 d4
    have T4 := txM_m T3 d5
    obtain ⟨I5, f1, f2, f3⟩ := m_rW (d := d + 1) (J := J) hm T4 d4 (q := 70) (w := 3) (by decide) (by decide)
    obtain ⟨r5, hr5⟩ : ∃ r5, r5 = rS r4 (fun p => aW T n p 3) := ⟨_, rfl⟩
    rw [← hr5] at f2
    have T5 := txM_m T4 f3
    obtain ⟨v3, I6, g1, g2, g4, g5⟩ := m_rN (d := d + 2) (J := J) hm T5 f2 (lo := 0) (hi := 99) (by omega) (by omega)
    obtain ⟨r6, hr6⟩ : ∃ r6, r6 = rS r5 (fun p => aN T n p 0 99) := ⟨_, rfl⟩
    rw [← hr6] at g2 g4
    have T6 := txM_m T5 g5
    obtain ⟨I7, m1, m2, m3⟩ := m_rW (d := d + 1) (J := J) hm T6 g4 (q := 71) (w := 4) (by decide) (by decide)
    obtain ⟨r7, hr7⟩ : ∃ r7, r7 = rS r6 (fun p => aW T n p 4) := ⟨_, rfl⟩
    rw [← hr7] at m2
    have T7 := txM_m T6 m3
    obtain ⟨v4, I8, o1, o2, o4, o5⟩ := m_rN (d := d + 2) (J := J) hm T7 m2 (lo := 0) (hi := 99) (by omega) (by omega)
    obtain ⟨r8, hr8⟩ : ∃ r8, r8 = rS r7 (fun p => aN T n p 0 99) := ⟨_, rfl⟩
    rw [← hr8] at o2 o4
    have k8 : ∀ q j, ¬ mlC q j → I8 q j = I q j := fun q j e => by rw [o5 q j e, m3 q j e, g5 q j e, f3 q j e, d5 q j e, c3 q j e, b4 q j e]
    obtain ⟨ch, ok⟩ := sdBoat_e (T := T) (n := n) (p := p) (X := X) full hr2 hr3 hr4 hr5 hr6 hr7 hr8
    have w3 : I3 93 0 = am_i X.la := by rw [c3 _ _ (by unfold mlC; omega), b4 _ _ (by unfold mlC; omega)]; exact hX.1.1
    have w8 : I8 94 0 = am_i X.bn.length := by rw [k8 _ _ (by unfold mlC; omega)]; exact i1
    have b1' : am_E (d + 5) 181 0 [(0, .ref 64)] [] (I, J, R, 138) = _ := b1
    have c1' : am_E (d + 5) 173 0 [(0, .ref 64), (1, .ref 69)] [] (I2, J, R, 138) = _ := c1
    have d1' : am_E (d + 5) 176 0 [(0, .ref 64), (1, .int (am_i 0)), (2, .int (am_i X.la))] [] (I3, J, R, 138) = _ := d1
    have f1' : am_E (d + 5) 173 0 [(0, .ref 64), (1, .ref 70)] [] (I4, J, R, 138) = _ := f1
    have g1' : am_E (d + 5) 176 0 [(0, .ref 64), (1, .int (am_i 0)), (2, .int (am_i 99))] [] (I5, J, R, 138) = _ := g1
    have m1' : am_E (d + 5) 173 0 [(0, .ref 64), (1, .ref 71)] [] (I6, J, R, 138) = _ := m1
    have o1' : am_E (d + 5) 176 0 [(0, .ref 64), (1, .int (am_i 0)), (2, .int (am_i 99))] [] (I7, J, R, 138) = _ := o1
    rw [ch]
    by_cases q : r8.1 = 0
    · rw [if_pos q]
      obtain ⟨q2, q3, q4, q5, q6, q7⟩ := ok q
      have h5 := (o4.1 q).1.2.1
      have blt : X.bn.length < 6 := by omega
      obtain ⟨b, hb⟩ : ∃ b, b = X.bn.length := ⟨_, rfl⟩
      rw [← hb] at w8 blt
      obtain ⟨K1, hK1⟩ : ∃ K1, K1 = am_up (am_up (am_up (am_up I8 96 (4 * b) (am_i v2)) 96 (4 * b + 1) (am_i v3)) 96 (4 * b + 2) (am_i v4)) 96 (4 * b + 3) (am_i 0) := ⟨_, rfl⟩
      have k1 : ∀ q j, ¬ (q = 96 ∧ 4 * b ≤ j ∧ j ≤ 4 * b + 3) → K1 q j = I8 q j := fun q j e => by rw [hK1, am_up_o (by omega), am_up_o (by omega), am_up_o (by omega), am_up_o (by omega)]
      obtain ⟨K9, hK9⟩ : ∃ K9, K9 = am_up K1 94 0 (am_i (b + 1 : Nat)) := ⟨_, rfl⟩
      have k9 : ∀ q j, ¬ mlC q j → ¬ (q = 96 ∧ 4 * b ≤ j ∧ j ≤ 4 * b + 3) → ¬ (q = 94 ∧ j = 0) → K9 q j = I q j := fun q j e1 e2 e3 => by rw [hK9, am_up_o e3, k1 q j e2, k8 q j e1]
      have wk : K1 94 0 = am_i b := by rw [k1 _ _ (by omega)]; exact w8
      have n0 : (4 * (b : Int)).toNat = 4 * b := by omega
      have n1 : (4 * (b : Int) + 1).toNat = 4 * b + 1 := by omega
      have n2 : (4 * (b : Int) + 2).toNat = 4 * b + 2 := by omega
      have n3 : (4 * (b : Int) + 3).toNat = 4 * b + 3 := by omega
      refine ⟨K9, am_up J 95 b v1, ?_, ⟨?_, fun _ => ?_⟩, fun q j e => ?_, fun q j e => am_up_o (by omega)⟩
      · rw [sg_X12_boatTold_0]
        simp (disch := first | assumption | omega) only [rM hm, ly_csm, ly_cam, ly_cf, ly_kd, ly_ln, ↓Bool.cond_decide, cond_true, cond_false, ↓bI_p, ↓bV_p, ↓bL_p, bIJ_s, bVJ_s, bLJ_s, ↓am_let_s, Nat.blt, Nat.ble, Bool.and_true, Bool.true_and, Bool.and_self, Int.cast_ofNat_Int, am_i_add, am_i_sub, am_i_mul, am_ok_i, am_i_cl, n_lt, n_le, n_eq, n_lt0, n_le0, n_0lt, n_0le, n_eq0, ne_eq, ↓reduceIte, not_true_eq_false, not_false_eq_true, and_true, true_and, and_false, false_and, eq_T, eq_F, lt_T, lt_F, le_T, le_F, qn_T, qn_F, and_F, b01_T, b01_F, e_isIn, Int32.toInt_toInt64, am_i_toInt, am_l_toInt, Int.toNat_natCast, Int.reduceToNat, Int.reduceAdd, Int.reduceSub, Int.reduceMul, Int.reduceNeg, Nat.reduceAdd, Nat.reduceMul, Nat.add_zero, Nat.mul_zero, Nat.zero_add, am_zb0, am_zb1, a1', b1', c1', w3, d1', f1', g1', m1', o1', h5, w8, n0, n1, n2, n3, ← hK1, wk, am_i_s, ← hK9]
      · refine mR_c (I := I8) ?_ (fun k hk => by rw [hK9, am_up_o (by omega), k1 _ _ (by omega)])
        have : ((0 : Nat), r8.2) = r8 := Prod.ext q.symm rfl
        show mR T n (0, r8.2) I8
        rw [this]; exact o4
      · refine mCh_boat (b := b) hX (fun x hx => (hO.2.1 x hx).2.2.2.1) hb blt ?_ ?_ ?_ ?_ ?_ ?_ k9 (fun q j e => am_up_o e)
        · rw [am_up_e, b2 q2]
        · rw [hK9, am_up_o (by omega), hK1, am_up_o (by omega), am_up_o (by omega), am_up_o (by omega), am_up_e, (d2 q4).1]
        · rw [hK9, am_up_o (by omega), hK1, am_up_o (by omega), am_up_o (by omega), am_up_e, (g2 q6).1]
        · rw [hK9, am_up_o (by omega), hK1, am_up_o (by omega), am_up_e, (o2 q).1]
        · rw [hK9, am_up_o (by omega), hK1, am_up_e]
        · rw [hK9, am_up_e]
      · exact k9 q j (by unfold mW at e; unfold mlC; omega) (by unfold mW at e; omega) (by unfold mW at e; omega)
    · rw [if_neg q]
      have h5 := mR_5 o4 q
      refine ⟨I8, J, ?_, ⟨o4, fun e => absurd e q⟩, mF_m k8, fun _ _ _ => rfl⟩
      rw [sg_X12_boatTold_0]
      simp (disch := first | assumption | omega) only [rM hm, ly_csm, ly_cam, ly_cf, ly_kd, ly_ln, ↓Bool.cond_decide, cond_true, cond_false, ↓bI_p, ↓bV_p, ↓bL_p, bIJ_s, bVJ_s, bLJ_s, ↓am_let_s, Nat.blt, Nat.ble, Bool.and_true, Bool.true_and, Bool.and_self, Int.cast_ofNat_Int, am_i_add, am_i_sub, am_i_mul, am_ok_i, am_i_cl, n_lt, n_le, n_eq, n_lt0, n_le0, n_0lt, n_0le, n_eq0, ne_eq, ↓reduceIte, not_true_eq_false, not_false_eq_true, and_true, true_and, and_false, false_and, eq_T, eq_F, lt_T, lt_F, le_T, le_F, qn_T, qn_F, and_F, b01_T, b01_F, e_isIn, Int32.toInt_toInt64, am_i_toInt, am_l_toInt, Int.toNat_natCast, Int.reduceToNat, Int.reduceAdd, Int.reduceSub, Int.reduceMul, Int.reduceNeg, Nat.reduceAdd, Nat.reduceMul, Nat.add_zero, Nat.mul_zero, Nat.zero_add, am_zb0, am_zb1, a1', b1', c1', w3, d1', f1', g1', m1', o1', h5]
theorem mCh_rider {b v2 : Nat} {l : List Nat} (h : mCh X I J) (hb : b = X.rd.length) (hb6 : b < 6) (h6 : X.bn.length ≤ 6) (e1 : J' 95 (8 + b) = am_l (pk27 l : Nat)) (e2 : I' 98 b = am_i v2) (e5 : I' 94 1 = am_i (b + 1 : Nat)) (e : ∀ q j, ¬ mlC q j → ¬ (q = 98 ∧ j = b) → ¬ (q = 94 ∧ j = 1) → I' q j = I q j) (eJ : ∀ q j, ¬ (q = 95 ∧ j = 8 + b) → J' q j = J q j) : mCh (X.la, X.wd, X.sq, X.nw, X.sz, X.bn, X.rd ++ [(l, v2)], X.wf, X.fo) I' J' := by
  obtain ⟨⟨a0, a1, a2, a3, a4, a5⟩, hbn, hr, hw, hf, h8⟩ := h
  subst hb
  refine ⟨⟨?_, ?_, ?_, ?_, ?_, ?_⟩, fun b x hx => ?_, fun r y hy => ?_, fun m v hm hv => ?_, fun f hf3 => ⟨fun q => ?_, fun a l q => ?_⟩, ?_⟩
  · rw [e _ _ (by unfold mlC; omega) (by omega) (by omega)]; exact a0
  · rw [e _ _ (by unfold mlC; omega) (by omega) (by omega)]; exact a1
  · rw [e _ _ (by unfold mlC; omega) (by omega) (by omega)]; exact a2
  · rw [e _ _ (by unfold mlC; omega) (by omega) (by omega)]; exact a3
  · rw [e5]
    show _ = am_i ((X.rd ++ [(l, v2)]).length : Nat)
    rw [List.length_append]; rfl
  · rw [e _ _ (by unfold mlC; omega) (by omega) (by omega)]; exact a5
  · obtain ⟨b1, b2, b3, b4, b5, b6⟩ := hbn b x hx
    have blt : b < X.bn.length := (List.getElem?_eq_some_iff.mp hx).1
    exact ⟨by rw [eJ _ _ (by omega)]; exact b1, by rw [e _ _ (by unfold mlC; omega) (by omega) (by omega)]; exact b2, by rw [e _ _ (by unfold mlC; omega) (by omega) (by omega)]; exact b3, by rw [e _ _ (by unfold mlC; omega) (by omega) (by omega)]; exact b4, by rw [e _ _ (by unfold mlC; omega) (by omega) (by omega)]; exact b5, fun k v hv => by
        rw [e _ _ (by unfold mlC; omega) (by omega) (by omega)]
        exact b6 k v hv⟩
  · have hy' : (X.rd ++ [(l, v2)])[r]? = some y := hy
    by_cases q : r < X.rd.length
    · rw [List.getElem?_append_left q] at hy'
      rw [eJ _ _ (by omega), e _ _ (by unfold mlC; omega) (by omega) (by omega)]
      exact hr r y hy'
    · rw [List.getElem?_append_right (by omega)] at hy'
      have hk0 : r - X.rd.length = 0 := by
        cases hk : r - X.rd.length with
        | zero => rfl
        | succ m => rw [hk] at hy'; simp at hy'
      rw [hk0] at hy'
      have ex : (l, v2) = y := by simpa using hy'
      subst ex
      obtain rfl : r = X.rd.length := by omega
      exact ⟨e1, e2⟩
  · rw [e _ _ (by unfold mlC; omega) (by omega) (by omega)]; exact hw m v hm hv
  · rw [e _ _ (by unfold mlC; omega) (by omega) (by omega)]
    exact (hf f hf3).1 q
  · obtain ⟨c1, c2, c3⟩ := (hf f hf3).2 a l q
    exact ⟨by rw [e _ _ (by unfold mlC; omega) (by omega) (by omega)]; exact c1, by rw [e _ _ (by unfold mlC; omega) (by omega) (by omega)]; exact c2, fun k t ht => by rw [e _ _ (by unfold mlC; omega) (by omega) (by omega)]; exact c3 k t ht⟩
  · rw [e _ _ (by unfold mlC; omega) (by omega) (by omega)]; exact h8
theorem m_rider (hm : st_Rm R) (hT : txM T n I) (hR : mrX T n (tE T n p) I) (hte : tE T n p ≤ n) (hX : mCh X I J) (hO : sOK n p i X) : ∃ I' J', am_E (d + 6) 186 0 [(0, .ref 64), (1, .int (am_i (tAt T n p)))] [] (I, J, R, 138) = some (none, (I', J', R, 138)) ∧ mQ T n (sdRider T n X p) I' J' ∧ mF I I' ∧ mK J J' := by
  have b6 := hO.1.2.2.2.2.2.2.1
  have bb6 := hO.1.2.2.2.2.2.1
  have i1 := hX.1.2.2.2.2.1
  have r0 := mR_0 hR hte
  have fu := m_full (J := J) (pl := tAt T n p) hm (a := 1) (by omega) b6 r0 i1
  by_cases full : X.rd.length = 6
  · obtain ⟨I1, a1, a2, a3⟩ := fu.1 full
    have a1' : ∀ d, am_E (d + 2) 180 0 [(0, .ref 64), (1, .int (am_i 1)), (2, .int (am_i 6)), (3, .int (am_i (tAt T n p)))] [] (I, J, R, 138) = some (some (.int (am_i 1)), (I1, J, R, 138)) := a1
    have ed : sdRider T n X p = (5, tAt T n p, X) := if_pos full
    rw [ed]
    refine ⟨I1, J, ?_, ⟨a2, fun e => absurd e (by show ¬ ((5 : Nat) = 0); decide)⟩, mF_m a3, fun _ _ _ => rfl⟩
    rw [sg_X12_riderTold_0]
    simp (disch := first | assumption | omega) only [rM hm, ly_csm, ly_cam, ly_cf, ly_kd, ly_ln, ↓Bool.cond_decide, cond_true, cond_false, ↓bI_p, ↓bV_p, ↓bL_p, bIJ_s, bVJ_s, bLJ_s, ↓am_let_s, Nat.blt, Nat.ble, Bool.and_true, Bool.true_and, Bool.and_self, Int.cast_ofNat_Int, am_i_add, am_i_sub, am_i_mul, am_ok_i, am_i_cl, n_lt, n_le, n_eq, n_lt0, n_le0, n_0lt, n_0le, n_eq0, ne_eq, ↓reduceIte, not_true_eq_false, not_false_eq_true, and_true, true_and, and_false, false_and, eq_T, eq_F, lt_T, lt_F, le_T, le_F, qn_T, qn_F, and_F, b01_T, b01_F, e_isIn, Int32.toInt_toInt64, am_i_toInt, am_l_toInt, Int.toNat_natCast, Int.reduceToNat, Int.reduceAdd, Int.reduceSub, Int.reduceMul, Int.reduceNeg, Nat.reduceAdd, Nat.reduceMul, Nat.add_zero, Nat.mul_zero, Nat.zero_add, am_zb0, am_zb1, a1']
  · have a1 := fu.2 full
    have a1' : ∀ d, am_E (d + 2) 180 0 [(0, .ref 64), (1, .int (am_i 1)), (2, .int (am_i 6)), (3, .int (am_i (tAt T n p)))] [] (I, J, R, 138) = some (some (.int (am_i 0)), (I, J, R, 138)) := a1
    obtain ⟨v1, I2, b1, b2, b3, b4⟩ := m_newName (d := d) hm hte hT hR hX hO
    obtain ⟨r2, hr2⟩ : ∃ r2, r2 = aK T n (tE T n p) X := ⟨_, rfl⟩
    rw [← hr2] at b2 b3
    have T2 := txM_m hT b4
    obtain ⟨I3, c1, c2, c3⟩ := m_rW (d := d + 1) (J := J) hm T2 b3 (q := 75) (w := 8) (by decide) (by decide)
    obtain ⟨r3, hr3⟩ : ∃ r3, r3 = rS r2 (fun p => aW T n p 8) := ⟨_, rfl⟩
    rw [← hr3] at c2
    have T3 := txM_m T2 c3
    obtain ⟨v2, I4, d1, d2, d4, d5⟩ := m_rN (d := d + 2) (J := J) hm T3 c2 (lo := 0) (hi := 7) (by omega) (by omega)
    obtain ⟨r4, hr4⟩ : ∃ r4, r4 = rS r3 (fun p => aN T n p 0 7) := ⟨_, rfl⟩
    rw [← hr4] at d2 d4
    have k8 : ∀ q j, ¬ mlC q j → I4 q j = I q j := fun q j e => by rw [d5 q j e, c3 q j e, b4 q j e]
    obtain ⟨ch, ok⟩ := sdRider_e (T := T) (n := n) (p := p) (X := X) full hr2 hr3 hr4
    have w8 : I4 94 1 = am_i X.rd.length := by rw [k8 _ _ (by unfold mlC; omega)]; exact i1
    have b1' : am_E (d + 5) 181 0 [(0, .ref 64)] [] (I, J, R, 138) = _ := b1
    have c1' : am_E (d + 5) 173 0 [(0, .ref 64), (1, .ref 75)] [] (I2, J, R, 138) = _ := c1
    have d1' : am_E (d + 5) 176 0 [(0, .ref 64), (1, .int (am_i 0)), (2, .int (am_i 7))] [] (I3, J, R, 138) = _ := d1
    rw [ch]
    by_cases q : r4.1 = 0
    · rw [if_pos q]
      obtain ⟨q2, q3⟩ := ok q
      have h5 := (d4.1 q).1.2.1
      have blt : X.rd.length < 6 := by omega
      obtain ⟨b, hb⟩ : ∃ b, b = X.rd.length := ⟨_, rfl⟩
      rw [← hb] at w8 blt
      obtain ⟨K9, hK9⟩ : ∃ K9, K9 = am_up (am_up I4 98 b (am_i v2)) 94 1 (am_i (b + 1 : Nat)) := ⟨_, rfl⟩
      have k9 : ∀ q j, ¬ mlC q j → ¬ (q = 98 ∧ j = b) → ¬ (q = 94 ∧ j = 1) → K9 q j = I q j := fun q j e1 e2 e3 => by rw [hK9, am_up_o e3, am_up_o e2, k8 q j e1]
      have wk : ∀ x, am_up I4 98 b x 94 1 = am_i b := fun x => by rw [am_up_o (by omega)]; exact w8
      have n8 : (8 + (b : Int)).toNat = 8 + b := by omega
      refine ⟨K9, am_up J 95 (8 + b) v1, ?_, ⟨?_, fun _ => ?_⟩, fun q j e => ?_, fun q j e => am_up_o (by omega)⟩
      · rw [sg_X12_riderTold_0]
        simp (disch := first | assumption | omega) only [rM hm, ly_csm, ly_cam, ly_cf, ly_kd, ly_ln, ↓Bool.cond_decide, cond_true, cond_false, ↓bI_p, ↓bV_p, ↓bL_p, bIJ_s, bVJ_s, bLJ_s, ↓am_let_s, Nat.blt, Nat.ble, Bool.and_true, Bool.true_and, Bool.and_self, Int.cast_ofNat_Int, am_i_add, am_i_sub, am_i_mul, am_ok_i, am_i_cl, n_lt, n_le, n_eq, n_lt0, n_le0, n_0lt, n_0le, n_eq0, ne_eq, ↓reduceIte, not_true_eq_false, not_false_eq_true, and_true, true_and, and_false, false_and, eq_T, eq_F, lt_T, lt_F, le_T, le_F, qn_T, qn_F, and_F, b01_T, b01_F, e_isIn, Int32.toInt_toInt64, am_i_toInt, am_l_toInt, Int.toNat_natCast, Int.reduceToNat, Int.reduceAdd, Int.reduceSub, Int.reduceMul, Int.reduceNeg, Nat.reduceAdd, Nat.reduceMul, Nat.add_zero, Nat.mul_zero, Nat.zero_add, am_zb0, am_zb1, a1', b1', c1', d1', h5, w8, n8, wk, am_i_s, ← hK9]
      · refine mR_c (I := I4) ?_ (fun k hk => by rw [hK9, am_up_o (by omega), am_up_o (by omega)])
        have : ((0 : Nat), r4.2) = r4 := Prod.ext q.symm rfl
        show mR T n (0, r4.2) I4
        rw [this]; exact d4
      · refine mCh_rider (b := b) hX hb blt bb6 ?_ ?_ ?_ k9 (fun q j e => am_up_o e)
        · rw [am_up_e, b2 q2]
        · rw [hK9, am_up_o (by omega), am_up_e, (d2 q).1]
        · rw [hK9, am_up_e]
      · exact k9 q j (by unfold mW at e; unfold mlC; omega) (by unfold mW at e; omega) (by unfold mW at e; omega)
    · rw [if_neg q]
      have h5 := mR_5 d4 q
      refine ⟨I4, J, ?_, ⟨d4, fun e => absurd e q⟩, mF_m k8, fun _ _ _ => rfl⟩
      rw [sg_X12_riderTold_0]
      simp (disch := first | assumption | omega) only [rM hm, ly_csm, ly_cam, ly_cf, ly_kd, ly_ln, ↓Bool.cond_decide, cond_true, cond_false, ↓bI_p, ↓bV_p, ↓bL_p, bIJ_s, bVJ_s, bLJ_s, ↓am_let_s, Nat.blt, Nat.ble, Bool.and_true, Bool.true_and, Bool.and_self, Int.cast_ofNat_Int, am_i_add, am_i_sub, am_i_mul, am_ok_i, am_i_cl, n_lt, n_le, n_eq, n_lt0, n_le0, n_0lt, n_0le, n_eq0, ne_eq, ↓reduceIte, not_true_eq_false, not_false_eq_true, and_true, true_and, and_false, false_and, eq_T, eq_F, lt_T, lt_F, le_T, le_F, qn_T, qn_F, and_F, b01_T, b01_F, e_isIn, Int32.toInt_toInt64, am_i_toInt, am_l_toInt, Int.toNat_natCast, Int.reduceToNat, Int.reduceAdd, Int.reduceSub, Int.reduceMul, Int.reduceNeg, Nat.reduceAdd, Nat.reduceMul, Nat.add_zero, Nat.mul_zero, Nat.zero_add, am_zb0, am_zb1, a1', b1', c1', d1', h5]
end MBO
