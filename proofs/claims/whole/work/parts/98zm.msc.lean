/-! ===== statements: the reference; score, wolf ===== -/
section MSC
variable {d : Nat} {J J' : tJ} {R : tR} {T : Nat → Nat} {n p i : Nat} {I I' : tI} {r : Nat × Nat} {X : sSt}
theorem m_s7a (hm : st_Rm R) {L : Nat} {v : Int64} (hL : L ≤ 6) (h94 : I 94 0 = am_i L) : ∀ (m j : Nat), j + m = L → ∃ a : Nat, a ≤ L ∧ ∀ d, am_E (d + 1) 184 7 [(0, .ref 64), (1, .long v), (3, .int (am_i j))] [] (I, J, R, 138) = am_E (d + 1) 184 34 [(0, .ref 64), (3, .int (am_i a))] [] (I, J, R, 138)
  | 0, j, hj => by
    obtain rfl : j = L := by omega
    refine ⟨j, Nat.le_refl _, fun d => ?_⟩
    rw [sg_X12_scoreTold_7]
    simp (disch := first | assumption | omega) only [rM hm, ly_csm, ly_cam, ly_cf, ly_kd, ly_ln, ↓Bool.cond_decide, cond_true, cond_false, ↓bI_p, ↓bV_p, ↓bL_p, bIJ_s, bVJ_s, bLJ_s, ↓am_let_s, Nat.blt, Nat.ble, Bool.and_true, Bool.true_and, Bool.and_self, Int.cast_ofNat_Int, am_i_add, am_i_sub, am_i_mul, am_ok_i, am_i_cl, n_lt, n_le, n_eq, n_lt0, n_le0, n_0lt, n_0le, n_eq0, ne_eq, ↓reduceIte, not_true_eq_false, not_false_eq_true, and_true, true_and, and_false, false_and, eq_T, eq_F, lt_T, lt_F, le_T, le_F, qn_T, qn_F, and_F, b01_T, b01_F, e_isIn, Int32.toInt_toInt64, am_i_toInt, am_l_toInt, Int.toNat_natCast, Int.reduceToNat, Int.reduceAdd, Int.reduceSub, Int.reduceMul, Int.reduceNeg, Nat.reduceAdd, Nat.reduceMul, Nat.add_zero, Nat.mul_zero, Nat.zero_add, am_zb0, am_zb1, h94]
  | m + 1, j, hj => by
    by_cases q : lg_cmp (J 95 j) v = 0
    · refine ⟨j, by omega, fun d => ?_⟩
      rw [sg_X12_scoreTold_7]
      have q' : (lg_cmp (J 95 j) v = 0) = True := eq_true q
      simp (disch := first | assumption | omega) only [rM hm, ly_csm, ly_cam, ly_cf, ly_kd, ly_ln, ↓Bool.cond_decide, cond_true, cond_false, ↓bI_p, ↓bV_p, ↓bL_p, bIJ_s, bVJ_s, bLJ_s, ↓am_let_s, Nat.blt, Nat.ble, Bool.and_true, Bool.true_and, Bool.and_self, Int.cast_ofNat_Int, am_i_add, am_i_sub, am_i_mul, am_ok_i, am_i_cl, n_lt, n_le, n_eq, n_lt0, n_le0, n_0lt, n_0le, n_eq0, ne_eq, ↓reduceIte, not_true_eq_false, not_false_eq_true, and_true, true_and, and_false, false_and, eq_T, eq_F, lt_T, lt_F, le_T, le_F, qn_T, qn_F, and_F, b01_T, b01_F, e_isIn, Int32.toInt_toInt64, am_i_toInt, am_l_toInt, Int.toNat_natCast, Int.reduceToNat, Int.reduceAdd, Int.reduceSub, Int.reduceMul, Int.reduceNeg, Nat.reduceAdd, Nat.reduceMul, Nat.add_zero, Nat.mul_zero, Nat.zero_add, am_zb0, am_zb1, h94, q']
    · obtain ⟨a, a1, a2⟩ := m_s7a (v := v) hm hL h94 m (j + 1) (by omega)
      have q' : (lg_cmp (J 95 j) v = 0) = False := eq_false q
      refine ⟨a, a1, fun d => ?_⟩
      rw [← a2 d, sg_X12_scoreTold_7]
      simp (disch := first | assumption | omega) only [rM hm, ly_csm, ly_cam, ly_cf, ly_kd, ly_ln, ↓Bool.cond_decide, cond_true, cond_false, ↓bI_p, ↓bV_p, ↓bL_p, bIJ_s, bVJ_s, bLJ_s, ↓am_let_s, Nat.blt, Nat.ble, Bool.and_true, Bool.true_and, Bool.and_self, Int.cast_ofNat_Int, am_i_add, am_i_sub, am_i_mul, am_ok_i, am_i_cl, n_lt, n_le, n_eq, n_lt0, n_le0, n_0lt, n_0le, n_eq0, ne_eq, ↓reduceIte, not_true_eq_false, not_false_eq_true, and_true, true_and, and_false, false_and, eq_T, eq_F, lt_T, lt_F, le_T, le_F, qn_T, qn_F, and_F, b01_T, b01_F, e_isIn, Int32.toInt_toInt64, am_i_toInt, am_l_toInt, Int.toNat_natCast, Int.reduceToNat, Int.reduceAdd, Int.reduceSub, Int.reduceMul, Int.reduceNeg, Nat.reduceAdd, Nat.reduceMul, Nat.add_zero, Nat.mul_zero, Nat.zero_add, am_zb0, am_zb1, h94, q', am_i_s]
theorem m_s7 (hm : st_Rm R) {l : List Nat} (hl : nOK l) (bn : List sBo) (hL : bn.length ≤ 6) (h94 : I 94 0 = am_i bn.length) (hJ : ∀ (b : Nat) (x : sBo), bn[b]? = some x → J 95 b = am_l (pk27 x.nm : Nat) ∧ nOK x.nm) : ∀ (m j : Nat), j + m = bn.length → ∀ d, am_E (d + 1) 184 7 [(0, .ref 64), (1, .long (am_l (pk27 l : Nat))), (3, .int (am_i j))] [] (I, J, R, 138) = am_E (d + 1) 184 34 [(0, .ref 64), (3, .int (am_i (j + sWh l (bn.drop j) : Nat)))] [] (I, J, R, 138)
  | 0, j, hj => fun d => by
    obtain rfl : j = bn.length := by omega
    rw [List.drop_length, show sWh l [] = 0 from rfl, Nat.add_zero, sg_X12_scoreTold_7]
    simp (disch := first | assumption | omega) only [rM hm, ly_csm, ly_cam, ly_cf, ly_kd, ly_ln, ↓Bool.cond_decide, cond_true, cond_false, ↓bI_p, ↓bV_p, ↓bL_p, bIJ_s, bVJ_s, bLJ_s, ↓am_let_s, Nat.blt, Nat.ble, Bool.and_true, Bool.true_and, Bool.and_self, Int.cast_ofNat_Int, am_i_add, am_i_sub, am_i_mul, am_ok_i, am_i_cl, n_lt, n_le, n_eq, n_lt0, n_le0, n_0lt, n_0le, n_eq0, ne_eq, ↓reduceIte, not_true_eq_false, not_false_eq_true, and_true, true_and, and_false, false_and, eq_T, eq_F, lt_T, lt_F, le_T, le_F, qn_T, qn_F, and_F, b01_T, b01_F, e_isIn, Int32.toInt_toInt64, am_i_toInt, am_l_toInt, Int.toNat_natCast, Int.reduceToNat, Int.reduceAdd, Int.reduceSub, Int.reduceMul, Int.reduceNeg, Nat.reduceAdd, Nat.reduceMul, Nat.add_zero, Nat.mul_zero, Nat.zero_add, am_zb0, am_zb1, h94]
  | m + 1, j, hj => fun d => by
    have lt : j < bn.length := by omega
    obtain ⟨x, hx⟩ : ∃ x, bn[j]? = some x := ⟨_, List.getElem?_eq_getElem lt⟩
    obtain ⟨b1, b2⟩ := hJ j x hx
    have ed : bn.drop j = x :: bn.drop (j + 1) := by
      rw [List.drop_eq_getElem_cons lt]
      congr 1
      rw [List.getElem?_eq_getElem lt] at hx
      exact Option.some.inj hx
    rw [ed]
    by_cases q : x.nm = l
    · have e0 : sWh l (x :: bn.drop (j + 1)) = 0 := if_pos q
      have cm : (lg_cmp (am_l (pk27 x.nm : Nat)) (am_l (pk27 l : Nat)) = 0) = True := by rw [nOK_l b2 hl]; exact eq_true q
      rw [e0, Nat.add_zero, sg_X12_scoreTold_7]
      simp (disch := first | assumption | omega) only [rM hm, ly_csm, ly_cam, ly_cf, ly_kd, ly_ln, ↓Bool.cond_decide, cond_true, cond_false, ↓bI_p, ↓bV_p, ↓bL_p, bIJ_s, bVJ_s, bLJ_s, ↓am_let_s, Nat.blt, Nat.ble, Bool.and_true, Bool.true_and, Bool.and_self, Int.cast_ofNat_Int, am_i_add, am_i_sub, am_i_mul, am_ok_i, am_i_cl, n_lt, n_le, n_eq, n_lt0, n_le0, n_0lt, n_0le, n_eq0, ne_eq, ↓reduceIte, not_true_eq_false, not_false_eq_true, and_true, true_and, and_false, false_and, eq_T, eq_F, lt_T, lt_F, le_T, le_F, qn_T, qn_F, and_F, b01_T, b01_F, e_isIn, Int32.toInt_toInt64, am_i_toInt, am_l_toInt, Int.toNat_natCast, Int.reduceToNat, Int.reduceAdd, Int.reduceSub, Int.reduceMul, Int.reduceNeg, Nat.reduceAdd, Nat.reduceMul, Nat.add_zero, Nat.mul_zero, Nat.zero_add, am_zb0, am_zb1, h94, b1, cm]
    · have e0 : sWh l (x :: bn.drop (j + 1)) = sWh l (bn.drop (j + 1)) + 1 := if_neg q
      have cm : (lg_cmp (am_l (pk27 x.nm : Nat)) (am_l (pk27 l : Nat)) = 0) = False := by rw [nOK_l b2 hl]; exact eq_false q
      have ih := m_s7 hm hl bn hL h94 hJ m (j + 1) (by omega) d
      rw [e0, show j + (sWh l (bn.drop (j + 1)) + 1) = j + 1 + sWh l (bn.drop (j + 1)) by omega, ← ih, sg_X12_scoreTold_7]
      simp (disch := first | assumption | omega) only [rM hm, ly_csm, ly_cam, ly_cf, ly_kd, ly_ln, ↓Bool.cond_decide, cond_true, cond_false, ↓bI_p, ↓bV_p, ↓bL_p, bIJ_s, bVJ_s, bLJ_s, ↓am_let_s, Nat.blt, Nat.ble, Bool.and_true, Bool.true_and, Bool.and_self, Int.cast_ofNat_Int, am_i_add, am_i_sub, am_i_mul, am_ok_i, am_i_cl, n_lt, n_le, n_eq, n_lt0, n_le0, n_0lt, n_0le, n_eq0, ne_eq, ↓reduceIte, not_true_eq_false, not_false_eq_true, and_true, true_and, and_false, false_and, eq_T, eq_F, lt_T, lt_F, le_T, le_F, qn_T, qn_F, and_F, b01_T, b01_F, e_isIn, Int32.toInt_toInt64, am_i_toInt, am_l_toInt, Int.toNat_natCast, Int.reduceToNat, Int.reduceAdd, Int.reduceSub, Int.reduceMul, Int.reduceNeg, Nat.reduceAdd, Nat.reduceMul, Nat.add_zero, Nat.mul_zero, Nat.zero_add, am_zb0, am_zb1, h94, b1, cm, am_i_s]
theorem mCh_score {b v : Nat} {x0 : sBo} (h : mCh X I J) (hs6 : ∀ x ∈ X.bn, x.sc.length ≤ 6) (hb : X.bn[b]? = some x0) (h5 : x0.sc.length < 6) (e1 : I' 97 (6 * b + x0.sc.length) = am_i v) (e2 : I' 96 (4 * b + 3) = am_i (x0.sc.length + 1 : Nat)) (e : ∀ q j, ¬ mlC q j → ¬ (q = 97 ∧ j = 6 * b + x0.sc.length) → ¬ (q = 96 ∧ j = 4 * b + 3) → I' q j = I q j) : mCh (X.la, X.wd, X.sq, X.nw, X.sz, sSc v X.bn b, X.rd, X.wf, X.fo) I' J := by
  obtain ⟨⟨a0, a1, a2, a3, a4, a5⟩, hbn, hr, hw, hf, h8⟩ := h
  refine ⟨⟨?_, ?_, ?_, ?_, ?_, ?_⟩, fun j x hx => ?_, fun r y hy => ?_, fun m v hm hv => ?_, fun f hf3 => ⟨fun q => ?_, fun a l q => ?_⟩, ?_⟩
  · rw [e _ _ (by unfold mlC; omega) (by omega) (by omega)]; exact a0
  · rw [e _ _ (by unfold mlC; omega) (by omega) (by omega)]; exact a1
  · rw [e _ _ (by unfold mlC; omega) (by omega) (by omega)]; exact a2
  · show I' 94 0 = am_i ((sSc v X.bn b).length : Nat)
    rw [e _ _ (by unfold mlC; omega) (by omega) (by omega), sSc_l]; exact a3
  · rw [e _ _ (by unfold mlC; omega) (by omega) (by omega)]; exact a4
  · rw [e _ _ (by unfold mlC; omega) (by omega) (by omega)]; exact a5
  · have hx' : (sSc v X.bn b)[j]? = some x := hx
    rw [sSc_g] at hx'
    by_cases q : j = b
    · rw [if_pos q, q, hb] at hx'
      have ex : (x0.nm, x0.mi, x0.ti, x0.ro, x0.sc ++ [v]) = x := Option.some.inj hx'
      subst ex
      subst q
      obtain ⟨b1, b2, b3, b4, b5, b6⟩ := hbn j x0 hb
      refine ⟨b1, by rw [e _ _ (by unfold mlC; omega) (by omega) (by omega)]; exact b2, by rw [e _ _ (by unfold mlC; omega) (by omega) (by omega)]; exact b3, by rw [e _ _ (by unfold mlC; omega) (by omega) (by omega)]; exact b4, ?_, fun k w hv => ?_⟩
      · show I' 96 (4 * j + 3) = am_i ((x0.sc ++ [v]).length : Nat)
        rw [List.length_append]; exact e2
      · have hv' : (x0.sc ++ [v])[k]? = some w := hv
        by_cases z : k < x0.sc.length
        · rw [List.getElem?_append_left z] at hv'
          rw [e _ _ (by unfold mlC; omega) (by omega) (by omega)]
          exact b6 k w hv'
        · rw [List.getElem?_append_right (by omega)] at hv'
          have hk0 : k - x0.sc.length = 0 := by
            cases hk : k - x0.sc.length with
            | zero => rfl
            | succ m => rw [hk] at hv'; simp at hv'
          rw [hk0] at hv'
          have ex : v = w := by simpa using hv'
          subst ex
          obtain rfl : k = x0.sc.length := by omega
          exact e1
    · rw [if_neg q] at hx'
      obtain ⟨b1, b2, b3, b4, b5, b6⟩ := hbn j x hx'
      exact ⟨b1, by rw [e _ _ (by unfold mlC; omega) (by omega) (by omega)]; exact b2, by rw [e _ _ (by unfold mlC; omega) (by omega) (by omega)]; exact b3, by rw [e _ _ (by unfold mlC; omega) (by omega) (by omega)]; exact b4, by rw [e _ _ (by unfold mlC; omega) (by omega) (by omega)]; exact b5, fun k w hv => by
        have z : k < x.sc.length := (List.getElem?_eq_some_iff.mp hv).1
        have z2 := hs6 x (List.mem_of_getElem? hx')
        rw [e _ _ (by unfold mlC; omega) (by omega) (by omega)]
        exact b6 k w hv⟩
  · rw [e _ _ (by unfold mlC; omega) (by omega) (by omega)]
    exact hr r y hy
  · rw [e _ _ (by unfold mlC; omega) (by omega) (by omega)]; exact hw m v hm hv
  · rw [e _ _ (by unfold mlC; omega) (by omega) (by omega)]
    exact (hf f hf3).1 q
  · obtain ⟨c1, c2, c3⟩ := (hf f hf3).2 a l q
    exact ⟨by rw [e _ _ (by unfold mlC; omega) (by omega) (by omega)]; exact c1, by rw [e _ _ (by unfold mlC; omega) (by omega) (by omega)]; exact c2, fun k t ht => by rw [e _ _ (by unfold mlC; omega) (by omega) (by omega)]; exact c3 k t ht⟩
  · rw [e _ _ (by unfold mlC; omega) (by omega) (by omega)]; exact h8
/-- behind a failure nothing is done -/
theorem m_s34F (hm : st_Rm R) {a : Nat} (h : mR T n r I) (e : r.1 ≠ 0) : am_E (d + 2) 184 34 [(0, .ref 64), (3, .int (am_i a))] [] (I, J, R, 138) = some (none, (I, J, R, 138)) := by
  have h5 := mR_5 h e
  have nu : ∀ d, am_E (d + 1) 176 0 [(0, .ref 64), (1, .int (am_i 0)), (2, .int (am_i 7))] [] (I, J, R, 138) = some (some (.int (am_i 0)), (I, J, R, 138)) := fun d => by
    rw [sg_X12_number_0]
    simp (disch := first | assumption | omega) only [rM hm, ly_csm, ly_cam, ly_cf, ly_kd, ly_ln, ↓Bool.cond_decide, cond_true, cond_false, ↓bI_p, ↓bV_p, ↓bL_p, bIJ_s, bVJ_s, bLJ_s, ↓am_let_s, Nat.blt, Nat.ble, Bool.and_true, Bool.true_and, Bool.and_self, Int.cast_ofNat_Int, am_i_add, am_i_sub, am_i_mul, am_ok_i, am_i_cl, n_lt, n_le, n_eq, n_lt0, n_le0, n_0lt, n_0le, n_eq0, ne_eq, ↓reduceIte, not_true_eq_false, not_false_eq_true, and_true, true_and, and_false, false_and, eq_T, eq_F, lt_T, lt_F, le_T, le_F, qn_T, qn_F, and_F, b01_T, b01_F, e_isIn, Int32.toInt_toInt64, am_i_toInt, am_l_toInt, Int.toNat_natCast, Int.reduceToNat, Int.reduceAdd, Int.reduceSub, Int.reduceMul, Int.reduceNeg, Nat.reduceAdd, Nat.reduceMul, Nat.add_zero, Nat.mul_zero, Nat.zero_add, am_zb0, am_zb1, h5]
  rw [sg_X12_scoreTold_34]
  simp (disch := first | assumption | omega) only [rM hm, ly_csm, ly_cam, ly_cf, ly_kd, ly_ln, ↓Bool.cond_decide, cond_true, cond_false, ↓bI_p, ↓bV_p, ↓bL_p, bIJ_s, bVJ_s, bLJ_s, ↓am_let_s, Nat.blt, Nat.ble, Bool.and_true, Bool.true_and, Bool.and_self, Int.cast_ofNat_Int, am_i_add, am_i_sub, am_i_mul, am_ok_i, am_i_cl, n_lt, n_le, n_eq, n_lt0, n_le0, n_0lt, n_0le, n_eq0, ne_eq, ↓reduceIte, not_true_eq_false, not_false_eq_true, and_true, true_and, and_false, false_and, eq_T, eq_F, lt_T, lt_F, le_T, le_F, qn_T, qn_F, and_F, b01_T, b01_F, e_isIn, Int32.toInt_toInt64, am_i_toInt, am_l_toInt, Int.toNat_natCast, Int.reduceToNat, Int.reduceAdd, Int.reduceSub, Int.reduceMul, Int.reduceNeg, Nat.reduceAdd, Nat.reduceMul, Nat.add_zero, Nat.mul_zero, Nat.zero_add, am_zb0, am_zb1, h5, sg_X12_scoreTold_60, nu, sg_X12_scoreTold_100]
theorem m_score (hm : st_Rm R) (hT : txM T n I) (hR : mrX T n (tE T n p) I) (hte : tE T n p ≤ n) (hX : mCh X I J) (hO : sOK n p i X) : ∃ I', am_E (d + 5) 184 0 [(0, .ref 64)] [] (I, J, R, 138) = some (none, (I', J, R, 138)) ∧ mQ T n (sdScore T n X p) I' J ∧ mF I I' := by
  have b6 := hO.1.2.2.2.2.2.1
  obtain ⟨v1, I2, b1, b2, b3, b4⟩ := m_name (d := d) (J := J) hm hT hte hR
  have T2 := txM_m hT b4
  have h94 : I2 94 0 = am_i X.bn.length := by rw [b4 _ _ (by unfold mlC; omega)]; exact hX.1.2.2.2.1
  have run : ∀ Y, am_E (d + 5) 184 7 [(0, .ref 64), (1, .long v1), (3, .int (am_i 0))] [] (I2, J, R, 138) = Y → am_E (d + 5) 184 0 [(0, .ref 64)] [] (I, J, R, 138) = Y := fun Y hY => by
    rw [← hY, sg_X12_scoreTold_0]
    simp (disch := first | assumption | omega) only [rM hm, ly_csm, ly_cam, ly_cf, ly_kd, ly_ln, ↓Bool.cond_decide, cond_true, cond_false, ↓bI_p, ↓bV_p, ↓bL_p, bIJ_s, bVJ_s, bLJ_s, ↓am_let_s, Nat.blt, Nat.ble, Bool.and_true, Bool.true_and, Bool.and_self, Int.cast_ofNat_Int, am_i_add, am_i_sub, am_i_mul, am_ok_i, am_i_cl, n_lt, n_le, n_eq, n_lt0, n_le0, n_0lt, n_0le, n_eq0, ne_eq, ↓reduceIte, not_true_eq_false, not_false_eq_true, and_true, true_and, and_false, false_and, eq_T, eq_F, lt_T, lt_F, le_T, le_F, qn_T, qn_F, and_F, b01_T, b01_F, e_isIn, Int32.toInt_toInt64, am_i_toInt, am_l_toInt, Int.toNat_natCast, Int.reduceToNat, Int.reduceAdd, Int.reduceSub, Int.reduceMul, Int.reduceNeg, Nat.reduceAdd, Nat.reduceMul, Nat.add_zero, Nat.mul_zero, Nat.zero_add, am_zb0, am_zb1, b1]
  by_cases q1 : (aM T n (tE T n p)).1 = 0
  · obtain ⟨v2, v3⟩ := b2 q1
    obtain ⟨k1, tn6, nw, te2⟩ := tL_b q1
    obtain ⟨l1, l2, l3⟩ := tL_x hte k1
    have hl : nOK (tL T n (tE T n p)) := ⟨by omega, by omega, l3⟩
    obtain ⟨R1, R2⟩ := b3.1 q1
    have h5 := R1.2.1
    have s7 := m_s7 (J := J) hm hl X.bn b6 h94 (fun b x e => ⟨(hX.2.1 b x e).1, hO.2.2.2.1 x.nm (List.mem_append.mpr (Or.inl (List.mem_map.mpr ⟨x, List.mem_of_getElem? e, rfl⟩)))⟩) X.bn.length 0 (by omega) (d + 4)
    rw [List.drop_zero, Nat.zero_add] at s7
    rw [v2] at run
    have s7' : am_E (d + 5) 184 7 [(0, .ref 64), (1, .long (am_l (pk27 (tL T n (tE T n p)) : Nat))), (3, .int (am_i 0))] [] (I2, J, R, 138) = _ := s7
    have sm := sWh_m (l := tL T n (tE T n p)) X.bn
    obtain ⟨b, hb⟩ : ∃ b, b = sWh (tL T n (tE T n p)) X.bn := ⟨_, rfl⟩
    rw [← hb] at s7' sm
    by_cases q2 : b = X.bn.length
    · have ed : sdScore T n X p = (3, tAt T n (tE T n p), X) := by unfold sdScore; rw [sI_0 q1, if_pos (by rw [← hb]; exact q2)]
      rw [ed]
      obtain ⟨I3, f1, f2, f3⟩ := m_rF (J := J) (c := 3) (pl := tAt T n (tE T n p)) hm b3 q1 (by decide) (by decide)
      have f1' : ∀ d, am_E (d + 1) 167 0 [(0, .ref 64), (1, .int (am_i 3)), (2, .int (am_i (tAt T n (tE T n p))))] [] (I2, J, R, 138) = some (none, (I3, J, R, 138)) := f1
      have h53 := mR_5 f2 (by show ¬ ((3 : Nat) = 0); decide)
      have nu : ∀ d, am_E (d + 1) 176 0 [(0, .ref 64), (1, .int (am_i 0)), (2, .int (am_i 7))] [] (I3, J, R, 138) = some (some (.int (am_i 0)), (I3, J, R, 138)) := fun d => by
        rw [sg_X12_number_0]
        simp (disch := first | assumption | omega) only [rM hm, ly_csm, ly_cam, ly_cf, ly_kd, ly_ln, ↓Bool.cond_decide, cond_true, cond_false, ↓bI_p, ↓bV_p, ↓bL_p, bIJ_s, bVJ_s, bLJ_s, ↓am_let_s, Nat.blt, Nat.ble, Bool.and_true, Bool.true_and, Bool.and_self, Int.cast_ofNat_Int, am_i_add, am_i_sub, am_i_mul, am_ok_i, am_i_cl, n_lt, n_le, n_eq, n_lt0, n_le0, n_0lt, n_0le, n_eq0, ne_eq, ↓reduceIte, not_true_eq_false, not_false_eq_true, and_true, true_and, and_false, false_and, eq_T, eq_F, lt_T, lt_F, le_T, le_F, qn_T, qn_F, and_F, b01_T, b01_F, e_isIn, Int32.toInt_toInt64, am_i_toInt, am_l_toInt, Int.toNat_natCast, Int.reduceToNat, Int.reduceAdd, Int.reduceSub, Int.reduceMul, Int.reduceNeg, Nat.reduceAdd, Nat.reduceMul, Nat.add_zero, Nat.mul_zero, Nat.zero_add, am_zb0, am_zb1, h53]
      refine ⟨I3, run _ (s7'.trans ?_), ⟨f2, fun e => absurd e (by show ¬ ((3 : Nat) = 0); decide)⟩, mF_m (fun q j e => by rw [f3 q j e, b4 q j e])⟩
      rw [← q2] at h94 b6
      rw [sg_X12_scoreTold_34]
      simp (disch := first | assumption | omega) only [rM hm, ly_csm, ly_cam, ly_cf, ly_kd, ly_ln, ↓Bool.cond_decide, cond_true, cond_false, ↓bI_p, ↓bV_p, ↓bL_p, bIJ_s, bVJ_s, bLJ_s, ↓am_let_s, Nat.blt, Nat.ble, Bool.and_true, Bool.true_and, Bool.and_self, Int.cast_ofNat_Int, am_i_add, am_i_sub, am_i_mul, am_ok_i, am_i_cl, n_lt, n_le, n_eq, n_lt0, n_le0, n_0lt, n_0le, n_eq0, ne_eq, ↓reduceIte, not_true_eq_false, not_false_eq_true, and_true, true_and, and_false, false_and, eq_T, eq_F, lt_T, lt_F, le_T, le_F, qn_T, qn_F, and_F, b01_T, b01_F, e_isIn, Int32.toInt_toInt64, am_i_toInt, am_l_toInt, Int.toNat_natCast, Int.reduceToNat, Int.reduceAdd, Int.reduceSub, Int.reduceMul, Int.reduceNeg, Nat.reduceAdd, Nat.reduceMul, Nat.add_zero, Nat.mul_zero, Nat.zero_add, am_zb0, am_zb1, h5, h94, v3, f1', sg_X12_scoreTold_60, nu, h53, sg_X12_scoreTold_100]
    · have blt : b < X.bn.length := by omega
      obtain ⟨x0, hx0⟩ : ∃ x, X.bn[b]? = some x := ⟨_, List.getElem?_eq_getElem blt⟩
      have x06 := (hO.2.1 x0 (List.mem_of_getElem? hx0)).2.2.2.1
      have sl : sLn X.bn b = x0.sc.length := by unfold sLn; rw [hx0]; rfl
      obtain ⟨v, I4, d1, d2, d4, d5⟩ := m_rN (d := d + 1) (J := J) hm T2 b3 (lo := 0) (hi := 7) (by omega) (by omega)
      obtain ⟨r3, hr3⟩ : ∃ r3, r3 = aN T n (aM T n (tE T n p)).2 0 7 := ⟨_, rfl⟩
      rw [rS_0 q1, ← hr3] at d2 d4
      have d1' : am_E (d + 4) 176 0 [(0, .ref 64), (1, .int (am_i 0)), (2, .int (am_i 7))] [] (I2, J, R, 138) = _ := d1
      have o4 : ∀ q j, ¬ mlC q j → I4 q j = I q j := fun q j e => by rw [d5 q j e, b4 q j e]
      have w4 : I4 96 (4 * b + 3) = am_i x0.sc.length := by rw [o4 _ _ (by unfold mlC; omega)]; exact (hX.2.1 b x0 hx0).2.2.2.2.1
      have red : sdScore T n X p = (if r3.1 = 0 then (if x0.sc.length = 6 then (5, tAt T n (aM T n (tE T n p)).2, X) else (0, r3.2, (X.la, X.wd, X.sq, X.nw, X.sz, sSc (tV T n (aM T n (tE T n p)).2) X.bn b, X.rd, X.wf, X.fo))) else (r3.1, r3.2, X)) := by
        unfold sdScore
        rw [sI_0 q1, ← hb, if_neg q2, ← hr3, sl]
        by_cases q3 : r3.1 = 0
        · rw [sI_0 q3, if_pos q3]
        · rw [sI_n q3, if_neg q3]
      rw [red]
      have bne : ¬ (b : Int) = (X.bn.length : Int) := by omega
      have n3 : (4 * (b : Int) + 3).toNat = 4 * b + 3 := by omega
      by_cases q3 : r3.1 = 0
      · obtain ⟨z1, z2⟩ := d2 q3
        have h54 := (d4.1 q3).1.2.1
        rw [if_pos q3]
        by_cases q6 : x0.sc.length = 6
        · rw [if_pos q6]
          have w4' : I4 96 (4 * b + 3) = am_i 6 := by rw [w4, q6]; rfl
          obtain ⟨I5, f1, f2, f3⟩ := m_rF (J := J) (c := 5) (pl := tAt T n (aM T n (tE T n p)).2) hm d4 q3 (by decide) (by decide)
          have f1' : ∀ d, am_E (d + 1) 167 0 [(0, .ref 64), (1, .int (am_i 5)), (2, .int (am_i (tAt T n (aM T n (tE T n p)).2)))] [] (I4, J, R, 138) = some (none, (I5, J, R, 138)) := f1
          have h55 := mR_5 f2 (by show ¬ ((5 : Nat) = 0); decide)
          refine ⟨I5, run _ (s7'.trans ?_), ⟨f2, fun e => absurd e (by show ¬ ((5 : Nat) = 0); decide)⟩, mF_m (fun q j e => by rw [f3 q j e, o4 q j e])⟩
          rw [sg_X12_scoreTold_34]
          simp (disch := first | assumption | omega) only [rM hm, ly_csm, ly_cam, ly_cf, ly_kd, ly_ln, ↓Bool.cond_decide, cond_true, cond_false, ↓bI_p, ↓bV_p, ↓bL_p, bIJ_s, bVJ_s, bLJ_s, ↓am_let_s, Nat.blt, Nat.ble, Bool.and_true, Bool.true_and, Bool.and_self, Int.cast_ofNat_Int, am_i_add, am_i_sub, am_i_mul, am_ok_i, am_i_cl, n_lt, n_le, n_eq, n_lt0, n_le0, n_0lt, n_0le, n_eq0, ne_eq, ↓reduceIte, not_true_eq_false, not_false_eq_true, and_true, true_and, and_false, false_and, eq_T, eq_F, lt_T, lt_F, le_T, le_F, qn_T, qn_F, and_F, b01_T, b01_F, e_isIn, Int32.toInt_toInt64, am_i_toInt, am_l_toInt, Int.toNat_natCast, Int.reduceToNat, Int.reduceAdd, Int.reduceSub, Int.reduceMul, Int.reduceNeg, Nat.reduceAdd, Nat.reduceMul, Nat.add_zero, Nat.mul_zero, Nat.zero_add, am_zb0, am_zb1, h5, h94, sg_X12_scoreTold_60, d1', h54, n3, w4', z2, f1', sg_X12_scoreTold_100, h55]
        · rw [if_neg q6]
          have q6' : x0.sc.length < 6 := by omega
          have q6i : ¬ (x0.sc.length : Int) = 6 := by omega
          obtain ⟨K9, hK9⟩ : ∃ K9, K9 = am_up (am_up I4 97 (6 * b + x0.sc.length) (am_i v)) 96 (4 * b + 3) (am_i (x0.sc.length + 1 : Nat)) := ⟨_, rfl⟩
          have k9 : ∀ q j, ¬ mlC q j → ¬ (q = 97 ∧ j = 6 * b + x0.sc.length) → ¬ (q = 96 ∧ j = 4 * b + 3) → K9 q j = I q j := fun q j e1 e2 e3 => by rw [hK9, am_up_o e3, am_up_o e2, o4 q j e1]
          have u4 : ∀ x, am_up I4 97 (6 * b + x0.sc.length) x 96 (4 * b + 3) = am_i x0.sc.length := fun x => by rw [am_up_o (by omega)]; exact w4
          have n6 : (6 * (b : Int) + (x0.sc.length : Int)).toNat = 6 * b + x0.sc.length := by omega
          refine ⟨K9, run _ (s7'.trans ?_), ⟨?_, fun _ => ?_⟩, fun q j e => ?_⟩
          · rw [sg_X12_scoreTold_34]
            simp (disch := first | assumption | omega) only [rM hm, ly_csm, ly_cam, ly_cf, ly_kd, ly_ln, ↓Bool.cond_decide, cond_true, cond_false, ↓bI_p, ↓bV_p, ↓bL_p, bIJ_s, bVJ_s, bLJ_s, ↓am_let_s, Nat.blt, Nat.ble, Bool.and_true, Bool.true_and, Bool.and_self, Int.cast_ofNat_Int, am_i_add, am_i_sub, am_i_mul, am_ok_i, am_i_cl, n_lt, n_le, n_eq, n_lt0, n_le0, n_0lt, n_0le, n_eq0, ne_eq, ↓reduceIte, not_true_eq_false, not_false_eq_true, and_true, true_and, and_false, false_and, eq_T, eq_F, lt_T, lt_F, le_T, le_F, qn_T, qn_F, and_F, b01_T, b01_F, e_isIn, Int32.toInt_toInt64, am_i_toInt, am_l_toInt, Int.toNat_natCast, Int.reduceToNat, Int.reduceAdd, Int.reduceSub, Int.reduceMul, Int.reduceNeg, Nat.reduceAdd, Nat.reduceMul, Nat.add_zero, Nat.mul_zero, Nat.zero_add, am_zb0, am_zb1, h5, h94, sg_X12_scoreTold_60, d1', h54, n3, w4, sg_X12_scoreTold_100, n6, u4, am_i_s, ← hK9]
          · refine mR_c (I := I4) ?_ (fun k hk => by rw [hK9, am_up_o (by omega), am_up_o (by omega)])
            have : ((0 : Nat), r3.2) = r3 := Prod.ext q3.symm rfl
            show mR T n (0, r3.2) I4
            rw [this]; exact d4
          · refine mCh_score hX (fun x hx => (hO.2.1 x hx).2.2.2.1) hx0 q6' ?_ ?_ k9
            · rw [hK9, am_up_o (by omega), am_up_e, z1]
            · rw [hK9, am_up_e]
          · exact k9 q j (by unfold mW at e; unfold mlC; omega) (by unfold mW at e; omega) (by unfold mW at e; omega)
      · rw [if_neg q3]
        have h54 := mR_5 d4 q3
        refine ⟨I4, run _ (s7'.trans ?_), ⟨d4, fun e => absurd e q3⟩, mF_m o4⟩
        rw [sg_X12_scoreTold_34]
        simp (disch := first | assumption | omega) only [rM hm, ly_csm, ly_cam, ly_cf, ly_kd, ly_ln, ↓Bool.cond_decide, cond_true, cond_false, ↓bI_p, ↓bV_p, ↓bL_p, bIJ_s, bVJ_s, bLJ_s, ↓am_let_s, Nat.blt, Nat.ble, Bool.and_true, Bool.true_and, Bool.and_self, Int.cast_ofNat_Int, am_i_add, am_i_sub, am_i_mul, am_ok_i, am_i_cl, n_lt, n_le, n_eq, n_lt0, n_le0, n_0lt, n_0le, n_eq0, ne_eq, ↓reduceIte, not_true_eq_false, not_false_eq_true, and_true, true_and, and_false, false_and, eq_T, eq_F, lt_T, lt_F, le_T, le_F, qn_T, qn_F, and_F, b01_T, b01_F, e_isIn, Int32.toInt_toInt64, am_i_toInt, am_l_toInt, Int.toNat_natCast, Int.reduceToNat, Int.reduceAdd, Int.reduceSub, Int.reduceMul, Int.reduceNeg, Nat.reduceAdd, Nat.reduceMul, Nat.add_zero, Nat.mul_zero, Nat.zero_add, am_zb0, am_zb1, h5, h94, sg_X12_scoreTold_60, d1', h54, sg_X12_scoreTold_100]
  · have ed : sdScore T n X p = ((aM T n (tE T n p)).1, (aM T n (tE T n p)).2, X) := by unfold sdScore; rw [sI_n q1]
    rw [ed]
    obtain ⟨a, a1, a2⟩ := m_s7a (J := J) (R := R) (v := v1) hm b6 h94 X.bn.length 0 (by omega)
    have a2' : am_E (d + 5) 184 7 [(0, .ref 64), (1, .long v1), (3, .int (am_i 0))] [] (I2, J, R, 138) = _ := a2 (d + 4)
    exact ⟨I2, run _ (a2'.trans (m_s34F (d := d + 3) hm b3 q1)), ⟨b3, fun e => absurd e q1⟩, mF_m b4⟩
theorem mCh_wolf {m v : Nat} (h : mCh X I J) (hw0 : X.wf m < 256) (hm6 : m ≤ 60) (hv8 : v < 8) (h0 : X.wf m / 2 ^ v % 2 = 0) (e1 : I' 99 (8 * m + v) = am_i 1) (e5 : I' 94 2 = am_i (X.nw + 1 : Nat)) (e : ∀ q j, ¬ mlC q j → ¬ (q = 99 ∧ j = 8 * m + v) → ¬ (q = 94 ∧ j = 2) → I' q j = I q j) : mCh (X.la, X.wd, X.sq, X.nw + 1, X.sz, X.bn, X.rd, (fun k => if k = m then X.wf k + 2 ^ v else X.wf k), X.fo) I' J := by
  obtain ⟨⟨a0, a1, a2, a3, a4, a5⟩, hbn, hr, hw, hf, h8⟩ := h
  refine ⟨⟨?_, ?_, ?_, ?_, ?_, ?_⟩, fun j x hx => ?_, fun r y hy => ?_, fun k u hk hu => ?_, fun f hf3 => ⟨fun q => ?_, fun a l q => ?_⟩, ?_⟩
  · rw [e _ _ (by unfold mlC; omega) (by omega) (by omega)]; exact a0
  · rw [e _ _ (by unfold mlC; omega) (by omega) (by omega)]; exact a1
  · rw [e _ _ (by unfold mlC; omega) (by omega) (by omega)]; exact a2
  · rw [e _ _ (by unfold mlC; omega) (by omega) (by omega)]; exact a3
  · rw [e _ _ (by unfold mlC; omega) (by omega) (by omega)]; exact a4
  · exact e5
  · obtain ⟨b1, b2, b3, b4, b5, b6⟩ := hbn j x hx
    exact ⟨b1, by rw [e _ _ (by unfold mlC; omega) (by omega) (by omega)]; exact b2, by rw [e _ _ (by unfold mlC; omega) (by omega) (by omega)]; exact b3, by rw [e _ _ (by unfold mlC; omega) (by omega) (by omega)]; exact b4, by rw [e _ _ (by unfold mlC; omega) (by omega) (by omega)]; exact b5, fun k w hv => by
        rw [e _ _ (by unfold mlC; omega) (by omega) (by omega)]
        exact b6 k w hv⟩
  · rw [e _ _ (by unfold mlC; omega) (by omega) (by omega)]
    exact hr r y hy
  · show I' 99 (8 * k + u) = am_i (((if k = m then X.wf k + 2 ^ v else X.wf k) / 2 ^ u % 2 : Nat) : Int)
    by_cases q : k = m
    · subst q
      rw [if_pos rfl, (wo_b hw0 hv8 h0).2 u hu]
      by_cases z : u = v
      · subst z
        rw [if_pos rfl]; exact e1
      · rw [if_neg z, e _ _ (by unfold mlC; omega) (by omega) (by omega)]; exact hw k u hk hu
    · rw [if_neg q, e _ _ (by unfold mlC; omega) (by omega) (by omega)]; exact hw k u hk hu
  · rw [e _ _ (by unfold mlC; omega) (by omega) (by omega)]
    exact (hf f hf3).1 q
  · obtain ⟨c1, c2, c3⟩ := (hf f hf3).2 a l q
    exact ⟨by rw [e _ _ (by unfold mlC; omega) (by omega) (by omega)]; exact c1, by rw [e _ _ (by unfold mlC; omega) (by omega) (by omega)]; exact c2, fun k t ht => by rw [e _ _ (by unfold mlC; omega) (by omega) (by omega)]; exact c3 k t ht⟩
  · rw [e _ _ (by unfold mlC; omega) (by omega) (by omega)]; exact h8
theorem m_wolf (hm : st_Rm R) (hT : txM T n I) (hR : mrX T n (tE T n p) I) (hte : tE T n p ≤ n) (hX : mCh X I J) (hO : sOK n p i X) : ∃ I', am_E (d + 5) 185 0 [(0, .ref 64)] [] (I, J, R, 138) = some (none, (I', J, R, 138)) ∧ mQ T n (sdWolf T n X p) I' J ∧ mF I I' := by
  have la60 := hO.1.2.1
  have r0 := mR_0 hR hte
  have w0 : I 93 0 = am_i X.la := hX.1.1
  obtain ⟨v1, I2, b1, b2, b4, b5⟩ := m_rN (d := d + 1) (J := J) hm hT r0 (lo := 0) (hi := X.la) (by omega) (by omega)
  obtain ⟨r2, hr2⟩ : ∃ r2, r2 = aN T n (tE T n p) 0 X.la := ⟨_, rfl⟩
  rw [rS_0 rfl] at b2 b4
  have hr2' : aN T n ((0, tE T n p) : Nat × Nat).2 0 X.la = r2 := hr2.symm
  rw [hr2'] at b2 b4
  have T2 := txM_m hT b5
  obtain ⟨v2, I3, c1, c2, c4, c5⟩ := m_rN (d := d + 1) (J := J) hm T2 b4 (lo := 0) (hi := 7) (by omega) (by omega)
  obtain ⟨r3, hr3⟩ : ∃ r3, r3 = rS r2 (fun p => aN T n p 0 7) := ⟨_, rfl⟩
  rw [← hr3] at c2 c4
  have o3 : ∀ q j, ¬ mlC q j → I3 q j = I q j := fun q j e => by rw [c5 q j e, b5 q j e]
  have b1' : am_E (d + 4) 176 0 [(0, .ref 64), (1, .int (am_i 0)), (2, .int (am_i X.la))] [] (I, J, R, 138) = _ := b1
  have c1' : am_E (d + 4) 176 0 [(0, .ref 64), (1, .int (am_i 0)), (2, .int (am_i 7))] [] (I2, J, R, 138) = _ := c1
  have red : sdWolf T n X p = (if r3.1 = 0 then (if X.wf (tV T n (tE T n p)) / 2 ^ tV T n r2.2 % 2 = 1 then (2, tAt T n r2.2, X) else (0, r3.2, (X.la, X.wd, X.sq, X.nw + 1, X.sz, X.bn, X.rd, (fun m => if m = tV T n (tE T n p) then X.wf m + 2 ^ tV T n r2.2 else X.wf m), X.fo))) else (r3.1, r3.2, X)) := by
    unfold sdWolf
    rw [← hr2]
    by_cases q2 : r2.1 = 0
    · rw [sI_0 q2]
      rw [rS_0 q2] at hr3
      rw [← hr3]
      by_cases q3 : r3.1 = 0
      · rw [sI_0 q3, if_pos q3]
      · rw [sI_n q3, if_neg q3]
    · rw [rS_n q2] at hr3
      rw [sI_n q2, hr3, if_neg q2]
  rw [red]
  by_cases q3 : r3.1 = 0
  · have q2 : r2.1 = 0 := rS_1 (k := fun p => aN T n p 0 7) (by rw [← hr3]; exact q3)
    have e1 : v1 = tV T n (tE T n p) := (b2 q2).1
    have e2 : v2 = tV T n r2.2 := (c2 q3).1
    have z10 : I3 64 10 = am_i (tAt T n r2.2) := (c2 q3).2
    have nb1 := aN_b (T := T) (lo := 0) (hi := X.la) hte
    rw [← hr2] at nb1
    have y1 := nb1.1 q2
    have nb2 := aN_b (T := T) (lo := 0) (hi := 7) y1.2.2.2.2.2.2
    rw [rS_0 q2] at hr3
    rw [← hr3] at nb2
    have y2 := nb2.1 q3
    have v1b : v1 ≤ 60 := by omega
    have v2b : v2 < 8 := by omega
    rw [if_pos q3, ← e1, ← e2]
    have h53 := (c4.1 q3).1.2.1
    have bit : X.wf v1 / 2 ^ v2 % 2 < 2 := Nat.mod_lt _ (by decide)
    have w9 : I3 99 (8 * v1 + v2) = am_i (X.wf v1 / 2 ^ v2 % 2 : Nat) := by rw [o3 _ _ (by unfold mlC; omega)]; exact hX.2.2.2.1 v1 v2 v1b v2b
    have n8 : (8 * (v1 : Int) + (v2 : Int)).toNat = 8 * v1 + v2 := by omega
    by_cases q : X.wf v1 / 2 ^ v2 % 2 = 1
    · rw [if_pos q]
      rw [q] at w9
      have w9' : I3 99 (8 * v1 + v2) = am_i 1 := w9
      obtain ⟨I4, f1, f2, f3⟩ := m_rF (J := J) (c := 2) (pl := tAt T n r2.2) hm c4 q3 (by decide) (by decide)
      have f1' : ∀ d, am_E (d + 1) 167 0 [(0, .ref 64), (1, .int (am_i 2)), (2, .int (am_i (tAt T n r2.2)))] [] (I3, J, R, 138) = some (none, (I4, J, R, 138)) := f1
      have h54 := mR_5 f2 (by show ¬ ((2 : Nat) = 0); decide)
      refine ⟨I4, ?_, ⟨f2, fun e => absurd e (by show ¬ ((2 : Nat) = 0); decide)⟩, mF_m (fun q j e => by rw [f3 q j e, o3 q j e])⟩
      rw [sg_X12_wolfTold_0]
      simp (disch := first | assumption | omega) only [rM hm, ly_csm, ly_cam, ly_cf, ly_kd, ly_ln, ↓Bool.cond_decide, cond_true, cond_false, ↓bI_p, ↓bV_p, ↓bL_p, bIJ_s, bVJ_s, bLJ_s, ↓am_let_s, Nat.blt, Nat.ble, Bool.and_true, Bool.true_and, Bool.and_self, Int.cast_ofNat_Int, am_i_add, am_i_sub, am_i_mul, am_ok_i, am_i_cl, n_lt, n_le, n_eq, n_lt0, n_le0, n_0lt, n_0le, n_eq0, ne_eq, ↓reduceIte, not_true_eq_false, not_false_eq_true, and_true, true_and, and_false, false_and, eq_T, eq_F, lt_T, lt_F, le_T, le_F, qn_T, qn_F, and_F, b01_T, b01_F, e_isIn, Int32.toInt_toInt64, am_i_toInt, am_l_toInt, Int.toNat_natCast, Int.reduceToNat, Int.reduceAdd, Int.reduceSub, Int.reduceMul, Int.reduceNeg, Nat.reduceAdd, Nat.reduceMul, Nat.add_zero, Nat.mul_zero, Nat.zero_add, am_zb0, am_zb1, w0, b1', c1', h53, n8, w9', z10, f1', sg_X12_wolfTold_50, h54]
    · have q0 : X.wf v1 / 2 ^ v2 % 2 = 0 := by omega
      rw [if_neg q]
      rw [q0] at w9
      have w9' : I3 99 (8 * v1 + v2) = am_i 0 := w9
      have w2 : I3 94 2 = am_i X.nw := by rw [o3 _ _ (by unfold mlC; omega)]; exact hX.1.2.2.2.2.2
      obtain ⟨K9, hK9⟩ : ∃ K9, K9 = am_up (am_up I3 99 (8 * v1 + v2) (am_i 1)) 94 2 (am_i (X.nw + 1 : Nat)) := ⟨_, rfl⟩
      have k9 : ∀ q j, ¬ mlC q j → ¬ (q = 99 ∧ j = 8 * v1 + v2) → ¬ (q = 94 ∧ j = 2) → K9 q j = I q j := fun q j e1 e2 e3 => by rw [hK9, am_up_o e3, am_up_o e2, o3 q j e1]
      have u2 : ∀ x, am_up I3 99 (8 * v1 + v2) x 94 2 = am_i X.nw := fun x => by rw [am_up_o (by omega)]; exact w2
      refine ⟨K9, ?_, ⟨?_, fun _ => ?_⟩, fun q j e => ?_⟩
      · rw [sg_X12_wolfTold_0]
        simp (disch := first | assumption | omega) only [rM hm, ly_csm, ly_cam, ly_cf, ly_kd, ly_ln, ↓Bool.cond_decide, cond_true, cond_false, ↓bI_p, ↓bV_p, ↓bL_p, bIJ_s, bVJ_s, bLJ_s, ↓am_let_s, Nat.blt, Nat.ble, Bool.and_true, Bool.true_and, Bool.and_self, Int.cast_ofNat_Int, am_i_add, am_i_sub, am_i_mul, am_ok_i, am_i_cl, n_lt, n_le, n_eq, n_lt0, n_le0, n_0lt, n_0le, n_eq0, ne_eq, ↓reduceIte, not_true_eq_false, not_false_eq_true, and_true, true_and, and_false, false_and, eq_T, eq_F, lt_T, lt_F, le_T, le_F, qn_T, qn_F, and_F, b01_T, b01_F, e_isIn, Int32.toInt_toInt64, am_i_toInt, am_l_toInt, Int.toNat_natCast, Int.reduceToNat, Int.reduceAdd, Int.reduceSub, Int.reduceMul, Int.reduceNeg, Nat.reduceAdd, Nat.reduceMul, Nat.add_zero, Nat.mul_zero, Nat.zero_add, am_zb0, am_zb1, w0, b1', c1', h53, n8, w9', sg_X12_wolfTold_50, u2, am_i_s, ← hK9]
      · refine mR_c (I := I3) ?_ (fun k hk => by rw [hK9, am_up_o (by omega), am_up_o (by omega)])
        have : ((0 : Nat), r3.2) = r3 := Prod.ext q3.symm rfl
        show mR T n (0, r3.2) I3
        rw [this]; exact c4
      · exact mCh_wolf hX (hO.2.2.2.2.1 v1) v1b v2b q0 (by rw [hK9, am_up_o (by omega), am_up_e]) (by rw [hK9, am_up_e]) k9
      · exact k9 q j (by unfold mW at e; unfold mlC; omega) (by unfold mW at e; omega) (by unfold mW at e; omega)
  · rw [if_neg q3]
    have h53 := mR_5 c4 q3
    refine ⟨I3, ?_, ⟨c4, fun e => absurd e q3⟩, mF_m o3⟩
    rw [sg_X12_wolfTold_0]
    simp (disch := first | assumption | omega) only [rM hm, ly_csm, ly_cam, ly_cf, ly_kd, ly_ln, ↓Bool.cond_decide, cond_true, cond_false, ↓bI_p, ↓bV_p, ↓bL_p, bIJ_s, bVJ_s, bLJ_s, ↓am_let_s, Nat.blt, Nat.ble, Bool.and_true, Bool.true_and, Bool.and_self, Int.cast_ofNat_Int, am_i_add, am_i_sub, am_i_mul, am_ok_i, am_i_cl, n_lt, n_le, n_eq, n_lt0, n_le0, n_0lt, n_0le, n_eq0, ne_eq, ↓reduceIte, not_true_eq_false, not_false_eq_true, and_true, true_and, and_false, false_and, eq_T, eq_F, lt_T, lt_F, le_T, le_F, qn_T, qn_F, and_F, b01_T, b01_F, e_isIn, Int32.toInt_toInt64, am_i_toInt, am_l_toInt, Int.toNat_natCast, Int.reduceToNat, Int.reduceAdd, Int.reduceSub, Int.reduceMul, Int.reduceNeg, Nat.reduceAdd, Nat.reduceMul, Nat.add_zero, Nat.mul_zero, Nat.zero_add, am_zb0, am_zb1, w0, b1', c1', h53, sg_X12_wolfTold_50]
end MSC
