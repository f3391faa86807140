/-! ===== a sound as a text: the reference's readers ===== -/
def mR (T : Nat → Nat) (n : Nat) (r : Nat × Nat) (I : tI) : Prop := (r.1 = 0 → mrX T n r.2 I ∧ r.2 ≤ n) ∧ (r.1 ≠ 0 → r.1 < 9 ∧ I 64 5 = am_i r.1 ∧ I 64 6 = am_i r.2)
section MSD
variable {d : Nat} {J : tJ} {R : tR} {T : Nat → Nat} {n p : Nat} {I I' : tI} {r : Nat × Nat} {X : sSt}
theorem mR_5 (h : mR T n r I) (e : r.1 ≠ 0) : (I 64 5 = 0) = False := eq_false (by rw [(h.2 e).2.1]; exact i5_n e (h.2 e).1)
theorem mR_i (h : rdM T n r I) (hb : (r.1 = 0 → r.2 ≤ n) ∧ r.1 < 9) : mR T n r I := ⟨fun e => ⟨h.1 e, hb.1 e⟩, fun e => ⟨hb.2, h.2 e⟩⟩
theorem mR_c (h : mR T n r I) (e : ∀ k, k = 2 ∨ k = 3 ∨ k = 4 ∨ k = 5 ∨ k = 6 → I' 64 k = I 64 k) : mR T n r I' := ⟨fun q => ⟨mrX_c (h.1 q).1 e, (h.1 q).2⟩, fun q => ⟨(h.2 q).1, by rw [e 5 (by omega)]; exact (h.2 q).2.1, by rw [e 6 (by omega)]; exact (h.2 q).2.2⟩⟩
theorem txM_m (h : txM T n I) (e : ∀ q k, ¬ mlC q k → I' q k = I q k) : txM T n I' := txM_y h (yN_m e)
theorem m_rW (hm : st_Rm R) (hT : txM T n I) (h : mR T n r I) {q w : Nat} (hq : isQ q = true) (hw : wdQ q = w) : ∃ I', am_E (d + 4) 173 0 [(0, .ref 64), (1, .ref q)] [] (I, J, R, 138) = some (none, (I', J, R, 138)) ∧ mR T n (rS r (fun p => aW T n p w)) I' ∧ ∀ a k, ¬ mlC a k → I' a k = I a k := by
  subst hw
  by_cases e : r.1 = 0
  · obtain ⟨h1, h2⟩ := h.1 e
    obtain ⟨I', a1, a2, a3⟩ := m_asks (d := d) (J := J) hm hT h2 h1 hq
    rw [rS_0 e]
    have b := aW_b (T := T) (w := wdQ q) h2
    exact ⟨I', a1, mR_i a2 ⟨fun z => (b.1 z).2.2.2, by omega⟩, a3⟩
  · have h5 := mR_5 h e
    rw [rS_n e]
    refine ⟨I, ?_, h, fun _ _ _ => rfl⟩
    rw [sg_X12_asks_0]
    simp (disch := first | assumption | omega) only [rM hm, ly_csm, ly_cam, ly_cf, ly_kd, ly_ln, ↓Bool.cond_decide, cond_true, cond_false, ↓bI_p, ↓bV_p, ↓bL_p, bIJ_s, bVJ_s, bLJ_s, ↓am_let_s, Nat.blt, Nat.ble, Bool.and_true, Bool.true_and, Bool.and_self, Int.cast_ofNat_Int, am_i_add, am_i_sub, am_i_mul, am_ok_i, am_i_cl, n_lt, n_le, n_eq, n_lt0, n_le0, n_0lt, n_0le, n_eq0, ne_eq, ↓reduceIte, not_true_eq_false, not_false_eq_true, and_true, true_and, and_false, false_and, eq_T, eq_F, lt_T, lt_F, le_T, le_F, qn_T, qn_F, and_F, b01_T, b01_F, e_isIn, Int32.toInt_toInt64, am_i_toInt, am_l_toInt, Int.toNat_natCast, Int.reduceToNat, Int.reduceAdd, Int.reduceSub, Int.reduceMul, Int.reduceNeg, Nat.reduceAdd, Nat.reduceMul, Nat.add_zero, Nat.mul_zero, Nat.zero_add, am_zb0, am_zb1, h5, sg_X12_asks_24]
theorem m_rS (hm : st_Rm R) (hT : txM T n I) (h : mR T n r I) {c : Nat} (hc : c < 256) (hl : ¬ lB c = true) (hd : ¬ dB c = true) : ∃ I', am_E (d + 3) 175 0 [(0, .ref 64), (1, .int (am_i c))] [] (I, J, R, 138) = some (none, (I', J, R, 138)) ∧ mR T n (rS r (fun p => aS T n p c)) I' ∧ ∀ a k, ¬ mlC a k → I' a k = I a k := by
  by_cases e : r.1 = 0
  · obtain ⟨h1, h2⟩ := h.1 e
    obtain ⟨I', a1, a2, a3⟩ := m_asksSign (d := d) (J := J) hm hT h2 h1 hc hl hd
    rw [rS_0 e]
    have b := aS_b (T := T) (c := c) h2
    exact ⟨I', a1, mR_i a2 ⟨fun z => (b.1 z).2.2.2, by omega⟩, a3⟩
  · have h5 := mR_5 h e
    rw [rS_n e]
    refine ⟨I, ?_, h, fun _ _ _ => rfl⟩
    rw [sg_X12_asksSign_0]
    simp (disch := first | assumption | omega) only [rM hm, ly_csm, ly_cam, ly_cf, ly_kd, ly_ln, ↓Bool.cond_decide, cond_true, cond_false, ↓bI_p, ↓bV_p, ↓bL_p, bIJ_s, bVJ_s, bLJ_s, ↓am_let_s, Nat.blt, Nat.ble, Bool.and_true, Bool.true_and, Bool.and_self, Int.cast_ofNat_Int, am_i_add, am_i_sub, am_i_mul, am_ok_i, am_i_cl, n_lt, n_le, n_eq, n_lt0, n_le0, n_0lt, n_0le, n_eq0, ne_eq, ↓reduceIte, not_true_eq_false, not_false_eq_true, and_true, true_and, and_false, false_and, eq_T, eq_F, lt_T, lt_F, le_T, le_F, qn_T, qn_F, and_F, b01_T, b01_F, e_isIn, Int32.toInt_toInt64, am_i_toInt, am_l_toInt, Int.toNat_natCast, Int.reduceToNat, Int.reduceAdd, Int.reduceSub, Int.reduceMul, Int.reduceNeg, Nat.reduceAdd, Nat.reduceMul, Nat.add_zero, Nat.mul_zero, Nat.zero_add, am_zb0, am_zb1, h5, sg_X12_asksSign_24]
theorem m_rN (hm : st_Rm R) (hT : txM T n I) (h : mR T n r I) {lo hi : Nat} (hlo : lo ≤ 10000) (hhi : hi ≤ 10000) : ∃ (v : Nat) (I' : tI), am_E (d + 3) 176 0 [(0, .ref 64), (1, .int (am_i lo)), (2, .int (am_i hi))] [] (I, J, R, 138) = some (some (.int (am_i v)), (I', J, R, 138)) ∧ ((rS r (fun p => aN T n p lo hi)).1 = 0 → v = tV T n r.2 ∧ I' 64 10 = am_i (tAt T n r.2)) ∧ mR T n (rS r (fun p => aN T n p lo hi)) I' ∧ ∀ a k, ¬ mlC a k → I' a k = I a k := by
  by_cases e : r.1 = 0
  · obtain ⟨h1, h2⟩ := h.1 e
    obtain ⟨I', a1, a2, a3, a4⟩ := m_number (d := d) (J := J) hm hT h2 h1 hlo hhi
    rw [rS_0 e]
    have b := aN_b (T := T) (lo := lo) (hi := hi) h2
    refine ⟨_, I', a1, fun z => ?_, mR_i a2 ⟨fun z => (b.1 z).2.2.2.2.2.2, by omega⟩, a4⟩
    have k := b.1 z
    exact ⟨if_pos ⟨k.1, k.2.1⟩, a3 ⟨k.1, k.2.1⟩⟩
  · have h5 := mR_5 h e
    rw [rS_n e]
    refine ⟨0, I, ?_, fun z => absurd z e, h, fun _ _ _ => rfl⟩
    rw [sg_X12_number_0]
    simp (disch := first | assumption | omega) only [rM hm, ly_csm, ly_cam, ly_cf, ly_kd, ly_ln, ↓Bool.cond_decide, cond_true, cond_false, ↓bI_p, ↓bV_p, ↓bL_p, bIJ_s, bVJ_s, bLJ_s, ↓am_let_s, Nat.blt, Nat.ble, Bool.and_true, Bool.true_and, Bool.and_self, Int.cast_ofNat_Int, am_i_add, am_i_sub, am_i_mul, am_ok_i, am_i_cl, n_lt, n_le, n_eq, n_lt0, n_le0, n_0lt, n_0le, n_eq0, ne_eq, ↓reduceIte, not_true_eq_false, not_false_eq_true, and_true, true_and, and_false, false_and, eq_T, eq_F, lt_T, lt_F, le_T, le_F, qn_T, qn_F, and_F, b01_T, b01_F, e_isIn, Int32.toInt_toInt64, am_i_toInt, am_l_toInt, Int.toNat_natCast, Int.reduceToNat, Int.reduceAdd, Int.reduceSub, Int.reduceMul, Int.reduceNeg, Nat.reduceAdd, Nat.reduceMul, Nat.add_zero, Nat.mul_zero, Nat.zero_add, am_zb0, am_zb1, h5]
/-- fails, if nothing has failed yet -/
theorem m_rF (hm : st_Rm R) (h : mR T n r I) (e : r.1 = 0) {c pl : Nat} (hc : c ≠ 0) (hc9 : c < 9) : ∃ I', (∀ d, am_E (d + 1) 167 0 [(0, .ref 64), (1, .int (am_i c)), (2, .int (am_i pl))] [] (I, J, R, 138) = some (none, (I', J, R, 138))) ∧ mR T n (c, pl) I' ∧ ∀ a k, ¬ mlC a k → I' a k = I a k := by
  have h5 := (h.1 e).1.2.1
  refine ⟨_, fun d => m_fail hm h5, ⟨fun z => absurd z hc, fun _ => ⟨hc9, by rw [am_up_o (by omega), am_up_e], am_up_e⟩⟩, fun a k z => ?_⟩
  unfold mlC at z
  rw [am_up_o (by omega), am_up_o (by omega)]
/-- one of the own words -/
theorem m_own (hm : st_Rm R) (hT : txM T n I) (hp : p ≤ n) (hR : mrX T n p I) : am_E (d + 3) 177 0 [(0, .ref 64)] [] (atP T n p I, J, R, 138) = some (some (.int (b01 (0 ≤ tW T n p ∧ tW T n p < 26))), (atP T n p I, J, R, 138)) := by
  have tb := tW_b (T := T) (n := n) (p := p)
  have i0 := (ih_a (J := J) hm hT hp hR (q := 67) (w := 0) (by decide) (by decide)).2
  have i1 := (ih_a (J := J) hm hT hp hR (q := 68) (w := 1) (by decide) (by decide)).2
  have i2 := (ih_a (J := J) hm hT hp hR (q := 69) (w := 2) (by decide) (by decide)).2
  have i3 := (ih_a (J := J) hm hT hp hR (q := 70) (w := 3) (by decide) (by decide)).2
  have i4 := (ih_a (J := J) hm hT hp hR (q := 71) (w := 4) (by decide) (by decide)).2
  have i5 := (ih_a (J := J) hm hT hp hR (q := 72) (w := 5) (by decide) (by decide)).2
  have i6 := (ih_a (J := J) hm hT hp hR (q := 73) (w := 6) (by decide) (by decide)).2
  have i7 := (ih_a (J := J) hm hT hp hR (q := 74) (w := 7) (by decide) (by decide)).2
  have i8 := (ih_a (J := J) hm hT hp hR (q := 75) (w := 8) (by decide) (by decide)).2
  have i9 := (ih_a (J := J) hm hT hp hR (q := 76) (w := 9) (by decide) (by decide)).2
  have i10 := (ih_a (J := J) hm hT hp hR (q := 77) (w := 10) (by decide) (by decide)).2
  have i11 := (ih_a (J := J) hm hT hp hR (q := 78) (w := 11) (by decide) (by decide)).2
  have i12 := (ih_a (J := J) hm hT hp hR (q := 79) (w := 12) (by decide) (by decide)).2
  have i13 := (ih_a (J := J) hm hT hp hR (q := 80) (w := 13) (by decide) (by decide)).2
  have i14 := (ih_a (J := J) hm hT hp hR (q := 81) (w := 14) (by decide) (by decide)).2
  have i15 := (ih_a (J := J) hm hT hp hR (q := 82) (w := 15) (by decide) (by decide)).2
  have i16 := (ih_a (J := J) hm hT hp hR (q := 83) (w := 16) (by decide) (by decide)).2
  have i17 := (ih_a (J := J) hm hT hp hR (q := 84) (w := 17) (by decide) (by decide)).2
  have i18 := (ih_a (J := J) hm hT hp hR (q := 85) (w := 18) (by decide) (by decide)).2
  have i19 := (ih_a (J := J) hm hT hp hR (q := 86) (w := 19) (by decide) (by decide)).2
  have i20 := (ih_a (J := J) hm hT hp hR (q := 87) (w := 20) (by decide) (by decide)).2
  have i21 := (ih_a (J := J) hm hT hp hR (q := 88) (w := 21) (by decide) (by decide)).2
  have i22 := (ih_a (J := J) hm hT hp hR (q := 89) (w := 22) (by decide) (by decide)).2
  have i23 := (ih_a (J := J) hm hT hp hR (q := 90) (w := 23) (by decide) (by decide)).2
  have i24 := (ih_a (J := J) hm hT hp hR (q := 91) (w := 24) (by decide) (by decide)).2
  have i25 := (ih_a (J := J) hm hT hp hR (q := 92) (w := 25) (by decide) (by decide)).2
  by_cases w0 : tW T n p = (0 : Nat)
  · rw [b01_t (by rw [w0]; decide)]
    rw [b01_t w0] at i0
    rw [sg_X12_isOwnHere_0]
    simp (disch := first | assumption | omega) only [rM hm, ly_csm, ly_cam, ly_cf, ly_kd, ly_ln, ↓Bool.cond_decide, cond_true, cond_false, ↓bI_p, ↓bV_p, ↓bL_p, bIJ_s, bVJ_s, bLJ_s, ↓am_let_s, Nat.blt, Nat.ble, Bool.and_true, Bool.true_and, Bool.and_self, Int.cast_ofNat_Int, am_i_add, am_i_sub, am_i_mul, am_ok_i, am_i_cl, n_lt, n_le, n_eq, n_lt0, n_le0, n_0lt, n_0le, n_eq0, ne_eq, ↓reduceIte, not_true_eq_false, not_false_eq_true, and_true, true_and, and_false, false_and, eq_T, eq_F, lt_T, lt_F, le_T, le_F, qn_T, qn_F, and_F, b01_T, b01_F, e_isIn, Int32.toInt_toInt64, am_i_toInt, am_l_toInt, Int.toNat_natCast, Int.reduceToNat, Int.reduceAdd, Int.reduceSub, Int.reduceMul, Int.reduceNeg, Nat.reduceAdd, Nat.reduceMul, Nat.add_zero, Nat.mul_zero, Nat.zero_add, am_zb0, am_zb1, i0, sg_X12_isOwnHere_66, sg_X12_isOwnHere_142, sg_X12_isOwnHere_218, sg_X12_isOwnHere_294, sg_X12_isOwnHere_326]
  rw [b01_f w0] at i0
  by_cases w1 : tW T n p = (1 : Nat)
  · rw [b01_t (by rw [w1]; decide)]
    rw [b01_t w1] at i1
    rw [sg_X12_isOwnHere_0]
    simp (disch := first | assumption | omega) only [rM hm, ly_csm, ly_cam, ly_cf, ly_kd, ly_ln, ↓Bool.cond_decide, cond_true, cond_false, ↓bI_p, ↓bV_p, ↓bL_p, bIJ_s, bVJ_s, bLJ_s, ↓am_let_s, Nat.blt, Nat.ble, Bool.and_true, Bool.true_and, Bool.and_self, Int.cast_ofNat_Int, am_i_add, am_i_sub, am_i_mul, am_ok_i, am_i_cl, n_lt, n_le, n_eq, n_lt0, n_le0, n_0lt, n_0le, n_eq0, ne_eq, ↓reduceIte, not_true_eq_false, not_false_eq_true, and_true, true_and, and_false, false_and, eq_T, eq_F, lt_T, lt_F, le_T, le_F, qn_T, qn_F, and_F, b01_T, b01_F, e_isIn, Int32.toInt_toInt64, am_i_toInt, am_l_toInt, Int.toNat_natCast, Int.reduceToNat, Int.reduceAdd, Int.reduceSub, Int.reduceMul, Int.reduceNeg, Nat.reduceAdd, Nat.reduceMul, Nat.add_zero, Nat.mul_zero, Nat.zero_add, am_zb0, am_zb1, i0, i1, sg_X12_isOwnHere_66, sg_X12_isOwnHere_142, sg_X12_isOwnHere_218, sg_X12_isOwnHere_294, sg_X12_isOwnHere_326]
  rw [b01_f w1] at i1
  by_cases w2 : tW T n p = (2 : Nat)
  · rw [b01_t (by rw [w2]; decide)]
    rw [b01_t w2] at i2
    rw [sg_X12_isOwnHere_0]
    simp (disch := first | assumption | omega) only [rM hm, ly_csm, ly_cam, ly_cf, ly_kd, ly_ln, ↓Bool.cond_decide, cond_true, cond_false, ↓bI_p, ↓bV_p, ↓bL_p, bIJ_s, bVJ_s, bLJ_s, ↓am_let_s, Nat.blt, Nat.ble, Bool.and_true, Bool.true_and, Bool.and_self, Int.cast_ofNat_Int, am_i_add, am_i_sub, am_i_mul, am_ok_i, am_i_cl, n_lt, n_le, n_eq, n_lt0, n_le0, n_0lt, n_0le, n_eq0, ne_eq, ↓reduceIte, not_true_eq_false, not_false_eq_true, and_true, true_and, and_false, false_and, eq_T, eq_F, lt_T, lt_F, le_T, le_F, qn_T, qn_F, and_F, b01_T, b01_F, e_isIn, Int32.toInt_toInt64, am_i_toInt, am_l_toInt, Int.toNat_natCast, Int.reduceToNat, Int.reduceAdd, Int.reduceSub, Int.reduceMul, Int.reduceNeg, Nat.reduceAdd, Nat.reduceMul, Nat.add_zero, Nat.mul_zero, Nat.zero_add, am_zb0, am_zb1, i0, i1, i2, sg_X12_isOwnHere_66, sg_X12_isOwnHere_142, sg_X12_isOwnHere_218, sg_X12_isOwnHere_294, sg_X12_isOwnHere_326]
  rw [b01_f w2] at i2
  by_cases w3 : tW T n p = (3 : Nat)
  · rw [b01_t (by rw [w3]; decide)]
    rw [b01_t w3] at i3
    rw [sg_X12_isOwnHere_0]
    simp (disch := first | assumption | omega) only [rM hm, ly_csm, ly_cam, ly_cf, ly_kd, ly_ln, ↓Bool.cond_decide, cond_true, cond_false, ↓bI_p, ↓bV_p, ↓bL_p, bIJ_s, bVJ_s, bLJ_s, ↓am_let_s, Nat.blt, Nat.ble, Bool.and_true, Bool.true_and, Bool.and_self, Int.cast_ofNat_Int, am_i_add, am_i_sub, am_i_mul, am_ok_i, am_i_cl, n_lt, n_le, n_eq, n_lt0, n_le0, n_0lt, n_0le, n_eq0, ne_eq, ↓reduceIte, not_true_eq_false, not_false_eq_true, and_true, true_and, and_false, false_and, eq_T, eq_F, lt_T, lt_F, le_T, le_F, qn_T, qn_F, and_F, b01_T, b01_F, e_isIn, Int32.toInt_toInt64, am_i_toInt, am_l_toInt, Int.toNat_natCast, Int.reduceToNat, Int.reduceAdd, Int.reduceSub, Int.reduceMul, Int.reduceNeg, Nat.reduceAdd, Nat.reduceMul, Nat.add_zero, Nat.mul_zero, Nat.zero_add, am_zb0, am_zb1, i0, i1, i2, i3, sg_X12_isOwnHere_66, sg_X12_isOwnHere_142, sg_X12_isOwnHere_218, sg_X12_isOwnHere_294, sg_X12_isOwnHere_326]
  rw [b01_f w3] at i3
  by_cases w4 : tW T n p = (4 : Nat)
  · rw [b01_t (by rw [w4]; decide)]
    rw [b01_t w4] at i4
    rw [sg_X12_isOwnHere_0]
    simp (disch := first | assumption | omega) only [rM hm, ly_csm, ly_cam, ly_cf, ly_kd, ly_ln, ↓Bool.cond_decide, cond_true, cond_false, ↓bI_p, ↓bV_p, ↓bL_p, bIJ_s, bVJ_s, bLJ_s, ↓am_let_s, Nat.blt, Nat.ble, Bool.and_true, Bool.true_and, Bool.and_self, Int.cast_ofNat_Int, am_i_add, am_i_sub, am_i_mul, am_ok_i, am_i_cl, n_lt, n_le, n_eq, n_lt0, n_le0, n_0lt, n_0le, n_eq0, ne_eq, ↓reduceIte, not_true_eq_false, not_false_eq_true, and_true, true_and, and_false, false_and, eq_T, eq_F, lt_T, lt_F, le_T, le_F, qn_T, qn_F, and_F, b01_T, b01_F, e_isIn, Int32.toInt_toInt64, am_i_toInt, am_l_toInt, Int.toNat_natCast, Int.reduceToNat, Int.reduceAdd, Int.reduceSub, Int.reduceMul, Int.reduceNeg, Nat.reduceAdd, Nat.reduceMul, Nat.add_zero, Nat.mul_zero, Nat.zero_add, am_zb0, am_zb1, i0, i1, i2, i3, i4, sg_X12_isOwnHere_66, sg_X12_isOwnHere_142, sg_X12_isOwnHere_218, sg_X12_isOwnHere_294, sg_X12_isOwnHere_326]
  rw [b01_f w4] at i4
  by_cases w5 : tW T n p = (5 : Nat)
  · rw [b01_t (by rw [w5]; decide)]
    rw [b01_t w5] at i5
    rw [sg_X12_isOwnHere_0]
    simp (disch := first | assumption | omega) only [rM hm, ly_csm, ly_cam, ly_cf, ly_kd, ly_ln, ↓Bool.cond_decide, cond_true, cond_false, ↓bI_p, ↓bV_p, ↓bL_p, bIJ_s, bVJ_s, bLJ_s, ↓am_let_s, Nat.blt, Nat.ble, Bool.and_true, Bool.true_and, Bool.and_self, Int.cast_ofNat_Int, am_i_add, am_i_sub, am_i_mul, am_ok_i, am_i_cl, n_lt, n_le, n_eq, n_lt0, n_le0, n_0lt, n_0le, n_eq0, ne_eq, ↓reduceIte, not_true_eq_false, not_false_eq_true, and_true, true_and, and_false, false_and, eq_T, eq_F, lt_T, lt_F, le_T, le_F, qn_T, qn_F, and_F, b01_T, b01_F, e_isIn, Int32.toInt_toInt64, am_i_toInt, am_l_toInt, Int.toNat_natCast, Int.reduceToNat, Int.reduceAdd, Int.reduceSub, Int.reduceMul, Int.reduceNeg, Nat.reduceAdd, Nat.reduceMul, Nat.add_zero, Nat.mul_zero, Nat.zero_add, am_zb0, am_zb1, i0, i1, i2, i3, i4, i5, sg_X12_isOwnHere_66, sg_X12_isOwnHere_142, sg_X12_isOwnHere_218, sg_X12_isOwnHere_294, sg_X12_isOwnHere_326]
  rw [b01_f w5] at i5
  by_cases w6 : tW T n p = (6 : Nat)
  · rw [b01_t (by rw [w6]; decide)]
    rw [b01_t w6] at i6
    rw [sg_X12_isOwnHere_0]
    simp (disch := first | assumption | omega) only [rM hm, ly_csm, ly_cam, ly_cf, ly_kd, ly_ln, ↓Bool.cond_decide, cond_true, cond_false, ↓bI_p, ↓bV_p, ↓bL_p, bIJ_s, bVJ_s, bLJ_s, ↓am_let_s, Nat.blt, Nat.ble, Bool.and_true, Bool.true_and, Bool.and_self, Int.cast_ofNat_Int, am_i_add, am_i_sub, am_i_mul, am_ok_i, am_i_cl, n_lt, n_le, n_eq, n_lt0, n_le0, n_0lt, n_0le, n_eq0, ne_eq, ↓reduceIte, not_true_eq_false, not_false_eq_true, and_true, true_and, and_false, false_and, eq_T, eq_F, lt_T, lt_F, le_T, le_F, qn_T, qn_F, and_F, b01_T, b01_F, e_isIn, Int32.toInt_toInt64, am_i_toInt, am_l_toInt, Int.toNat_natCast, Int.reduceToNat, Int.reduceAdd, Int.reduceSub, Int.reduceMul, Int.reduceNeg, Nat.reduceAdd, Nat.reduceMul, Nat.add_zero, Nat.mul_zero, Nat.zero_add, am_zb0, am_zb1, i0, i1, i2, i3, i4, i5, i6, sg_X12_isOwnHere_66, sg_X12_isOwnHere_142, sg_X12_isOwnHere_218, sg_X12_isOwnHere_294, sg_X12_isOwnHere_326]
  rw [b01_f w6] at i6
  by_cases w7 : tW T n p = (7 : Nat)
  · rw [b01_t (by rw [w7]; decide)]
    rw [b01_t w7] at i7
    rw [sg_X12_isOwnHere_0]
    simp (disch := first | assumption | omega) only [rM hm, ly_csm, ly_cam, ly_cf, ly_kd, ly_ln, ↓Bool.cond_decide, cond_true, cond_false, ↓bI_p, ↓bV_p, ↓bL_p, bIJ_s, bVJ_s, bLJ_s, ↓am_let_s, Nat.blt, Nat.ble, Bool.and_true, Bool.true_and, Bool.and_self, Int.cast_ofNat_Int, am_i_add, am_i_sub, am_i_mul, am_ok_i, am_i_cl, n_lt, n_le, n_eq, n_lt0, n_le0, n_0lt, n_0le, n_eq0, ne_eq, ↓reduceIte, not_true_eq_false, not_false_eq_true, and_true, true_and, and_false, false_and, eq_T, eq_F, lt_T, lt_F, le_T, le_F, qn_T, qn_F, and_F, b01_T, b01_F, e_isIn, Int32.toInt_toInt64, am_i_toInt, am_l_toInt, Int.toNat_natCast, Int.reduceToNat, Int.reduceAdd, Int.reduceSub, Int.reduceMul, Int.reduceNeg, Nat.reduceAdd, Nat.reduceMul, Nat.add_zero, Nat.mul_zero, Nat.zero_add, am_zb0, am_zb1, i0, i1, i2, i3, i4, i5, i6, i7, sg_X12_isOwnHere_66, sg_X12_isOwnHere_142, sg_X12_isOwnHere_218, sg_X12_isOwnHere_294, sg_X12_isOwnHere_326]
  rw [b01_f w7] at i7
  by_cases w8 : tW T n p = (8 : Nat)
  · rw [b01_t (by rw [w8]; decide)]
    rw [b01_t w8] at i8
    rw [sg_X12_isOwnHere_0]
    simp (disch := first | assumption | omega) only [rM hm, ly_csm, ly_cam, ly_cf, ly_kd, ly_ln, ↓Bool.cond_decide, cond_true, cond_false, ↓bI_p, ↓bV_p, ↓bL_p, bIJ_s, bVJ_s, bLJ_s, ↓am_let_s, Nat.blt, Nat.ble, Bool.and_true, Bool.true_and, Bool.and_self, Int.cast_ofNat_Int, am_i_add, am_i_sub, am_i_mul, am_ok_i, am_i_cl, n_lt, n_le, n_eq, n_lt0, n_le0, n_0lt, n_0le, n_eq0, ne_eq, ↓reduceIte, not_true_eq_false, not_false_eq_true, and_true, true_and, and_false, false_and, eq_T, eq_F, lt_T, lt_F, le_T, le_F, qn_T, qn_F, and_F, b01_T, b01_F, e_isIn, Int32.toInt_toInt64, am_i_toInt, am_l_toInt, Int.toNat_natCast, Int.reduceToNat, Int.reduceAdd, Int.reduceSub, Int.reduceMul, Int.reduceNeg, Nat.reduceAdd, Nat.reduceMul, Nat.add_zero, Nat.mul_zero, Nat.zero_add, am_zb0, am_zb1, i0, i1, i2, i3, i4, i5, i6, i7, i8, sg_X12_isOwnHere_66, sg_X12_isOwnHere_142, sg_X12_isOwnHere_218, sg_X12_isOwnHere_294, sg_X12_isOwnHere_326]
  rw [b01_f w8] at i8
  by_cases w9 : tW T n p = (9 : Nat)
  · rw [b01_t (by rw [w9]; decide)]
    rw [b01_t w9] at i9
    rw [sg_X12_isOwnHere_0]
    simp (disch := first | assumption | omega) only [rM hm, ly_csm, ly_cam, ly_cf, ly_kd, ly_ln, ↓Bool.cond_decide, cond_true, cond_false, ↓bI_p, ↓bV_p, ↓bL_p, bIJ_s, bVJ_s, bLJ_s, ↓am_let_s, Nat.blt, Nat.ble, Bool.and_true, Bool.true_and, Bool.and_self, Int.cast_ofNat_Int, am_i_add, am_i_sub, am_i_mul, am_ok_i, am_i_cl, n_lt, n_le, n_eq, n_lt0, n_le0, n_0lt, n_0le, n_eq0, ne_eq, ↓reduceIte, not_true_eq_false, not_false_eq_true, and_true, true_and, and_false, false_and, eq_T, eq_F, lt_T, lt_F, le_T, le_F, qn_T, qn_F, and_F, b01_T, b01_F, e_isIn, Int32.toInt_toInt64, am_i_toInt, am_l_toInt, Int.toNat_natCast, Int.reduceToNat, Int.reduceAdd, Int.reduceSub, Int.reduceMul, Int.reduceNeg, Nat.reduceAdd, Nat.reduceMul, Nat.add_zero, Nat.mul_zero, Nat.zero_add, am_zb0, am_zb1, i0, i1, i2, i3, i4, i5, i6, i7, i8, i9, sg_X12_isOwnHere_66, sg_X12_isOwnHere_142, sg_X12_isOwnHere_218, sg_X12_isOwnHere_294, sg_X12_isOwnHere_326]
  rw [b01_f w9] at i9
  by_cases w10 : tW T n p = (10 : Nat)
  · rw [b01_t (by rw [w10]; decide)]
    rw [b01_t w10] at i10
    rw [sg_X12_isOwnHere_0]
    simp (disch := first | assumption | omega) only [rM hm, ly_csm, ly_cam, ly_cf, ly_kd, ly_ln, ↓Bool.cond_decide, cond_true, cond_false, ↓bI_p, ↓bV_p, ↓bL_p, bIJ_s, bVJ_s, bLJ_s, ↓am_let_s, Nat.blt, Nat.ble, Bool.and_true, Bool.true_and, Bool.and_self, Int.cast_ofNat_Int, am_i_add, am_i_sub, am_i_mul, am_ok_i, am_i_cl, n_lt, n_le, n_eq, n_lt0, n_le0, n_0lt, n_0le, n_eq0, ne_eq, ↓reduceIte, not_true_eq_false, not_false_eq_true, and_true, true_and, and_false, false_and, eq_T, eq_F, lt_T, lt_F, le_T, le_F, qn_T, qn_F, and_F, b01_T, b01_F, e_isIn, Int32.toInt_toInt64, am_i_toInt, am_l_toInt, Int.toNat_natCast, Int.reduceToNat, Int.reduceAdd, Int.reduceSub, Int.reduceMul, Int.reduceNeg, Nat.reduceAdd, Nat.reduceMul, Nat.add_zero, Nat.mul_zero, Nat.zero_add, am_zb0, am_zb1, i0, i1, i2, i3, i4, i5, i6, i7, i8, i9, i10, sg_X12_isOwnHere_66, sg_X12_isOwnHere_142, sg_X12_isOwnHere_218, sg_X12_isOwnHere_294, sg_X12_isOwnHere_326]
  rw [b01_f w10] at i10
  by_cases w11 : tW T n p = (11 : Nat)
  · rw [b01_t (by rw [w11]; decide)]
    rw [b01_t w11] at i11
    rw [sg_X12_isOwnHere_0]
    simp (disch := first | assumption | omega) only [rM hm, ly_csm, ly_cam, ly_cf, ly_kd, ly_ln, ↓Bool.cond_decide, cond_true, cond_false, ↓bI_p, ↓bV_p, ↓bL_p, bIJ_s, bVJ_s, bLJ_s, ↓am_let_s, Nat.blt, Nat.ble, Bool.and_true, Bool.true_and, Bool.and_self, Int.cast_ofNat_Int, am_i_add, am_i_sub, am_i_mul, am_ok_i, am_i_cl, n_lt, n_le, n_eq, n_lt0, n_le0, n_0lt, n_0le, n_eq0, ne_eq, ↓reduceIte, not_true_eq_false, not_false_eq_true, and_true, true_and, and_false, false_and, eq_T, eq_F, lt_T, lt_F, le_T, le_F, qn_T, qn_F, and_F, b01_T, b01_F, e_isIn, Int32.toInt_toInt64, am_i_toInt, am_l_toInt, Int.toNat_natCast, Int.reduceToNat, Int.reduceAdd, Int.reduceSub, Int.reduceMul, Int.reduceNeg, Nat.reduceAdd, Nat.reduceMul, Nat.add_zero, Nat.mul_zero, Nat.zero_add, am_zb0, am_zb1, i0, i1, i2, i3, i4, i5, i6, i7, i8, i9, i10, i11, sg_X12_isOwnHere_66, sg_X12_isOwnHere_142, sg_X12_isOwnHere_218, sg_X12_isOwnHere_294, sg_X12_isOwnHere_326]
  rw [b01_f w11] at i11
  by_cases w12 : tW T n p = (12 : Nat)
  · rw [b01_t (by rw [w12]; decide)]
    rw [b01_t w12] at i12
    rw [sg_X12_isOwnHere_0]
    simp (disch := first | assumption | omega) only [rM hm, ly_csm, ly_cam, ly_cf, ly_kd, ly_ln, ↓Bool.cond_decide, cond_true, cond_false, ↓bI_p, ↓bV_p, ↓bL_p, bIJ_s, bVJ_s, bLJ_s, ↓am_let_s, Nat.blt, Nat.ble, Bool.and_true, Bool.true_and, Bool.and_self, Int.cast_ofNat_Int, am_i_add, am_i_sub, am_i_mul, am_ok_i, am_i_cl, n_lt, n_le, n_eq, n_lt0, n_le0, n_0lt, n_0le, n_eq0, ne_eq, ↓reduceIte, not_true_eq_false, not_false_eq_true, and_true, true_and, and_false, false_and, eq_T, eq_F, lt_T, lt_F, le_T, le_F, qn_T, qn_F, and_F, b01_T, b01_F, e_isIn, Int32.toInt_toInt64, am_i_toInt, am_l_toInt, Int.toNat_natCast, Int.reduceToNat, Int.reduceAdd, Int.reduceSub, Int.reduceMul, Int.reduceNeg, Nat.reduceAdd, Nat.reduceMul, Nat.add_zero, Nat.mul_zero, Nat.zero_add, am_zb0, am_zb1, i0, i1, i2, i3, i4, i5, i6, i7, i8, i9, i10, i11, i12, sg_X12_isOwnHere_66, sg_X12_isOwnHere_142, sg_X12_isOwnHere_218, sg_X12_isOwnHere_294, sg_X12_isOwnHere_326]
  rw [b01_f w12] at i12
  by_cases w13 : tW T n p = (13 : Nat)
  · rw [b01_t (by rw [w13]; decide)]
    rw [b01_t w13] at i13
    rw [sg_X12_isOwnHere_0]
    simp (disch := first | assumption | omega) only [rM hm, ly_csm, ly_cam, ly_cf, ly_kd, ly_ln, ↓Bool.cond_decide, cond_true, cond_false, ↓bI_p, ↓bV_p, ↓bL_p, bIJ_s, bVJ_s, bLJ_s, ↓am_let_s, Nat.blt, Nat.ble, Bool.and_true, Bool.true_and, Bool.and_self, Int.cast_ofNat_Int, am_i_add, am_i_sub, am_i_mul, am_ok_i, am_i_cl, n_lt, n_le, n_eq, n_lt0, n_le0, n_0lt, n_0le, n_eq0, ne_eq, ↓reduceIte, not_true_eq_false, not_false_eq_true, and_true, true_and, and_false, false_and, eq_T, eq_F, lt_T, lt_F, le_T, le_F, qn_T, qn_F, and_F, b01_T, b01_F, e_isIn, Int32.toInt_toInt64, am_i_toInt, am_l_toInt, Int.toNat_natCast, Int.reduceToNat, Int.reduceAdd, Int.reduceSub, Int.reduceMul, Int.reduceNeg, Nat.reduceAdd, Nat.reduceMul, Nat.add_zero, Nat.mul_zero, Nat.zero_add, am_zb0, am_zb1, i0, i1, i2, i3, i4, i5, i6, i7, i8, i9, i10, i11, i12, i13, sg_X12_isOwnHere_66, sg_X12_isOwnHere_142, sg_X12_isOwnHere_218, sg_X12_isOwnHere_294, sg_X12_isOwnHere_326]
  rw [b01_f w13] at i13
  by_cases w14 : tW T n p = (14 : Nat)
  · rw [b01_t (by rw [w14]; decide)]
    rw [b01_t w14] at i14
    rw [sg_X12_isOwnHere_0]
    simp (disch := first | assumption | omega) only [rM hm, ly_csm, ly_cam, ly_cf, ly_kd, ly_ln, ↓Bool.cond_decide, cond_true, cond_false, ↓bI_p, ↓bV_p, ↓bL_p, bIJ_s, bVJ_s, bLJ_s, ↓am_let_s, Nat.blt, Nat.ble, Bool.and_true, Bool.true_and, Bool.and_self, Int.cast_ofNat_Int, am_i_add, am_i_sub, am_i_mul, am_ok_i, am_i_cl, n_lt, n_le, n_eq, n_lt0, n_le0, n_0lt, n_0le, n_eq0, ne_eq, ↓reduceIte, not_true_eq_false, not_false_eq_true, and_true, true_and, and_false, false_and, eq_T, eq_F, lt_T, lt_F, le_T, le_F, qn_T, qn_F, and_F, b01_T, b01_F, e_isIn, Int32.toInt_toInt64, am_i_toInt, am_l_toInt, Int.toNat_natCast, Int.reduceToNat, Int.reduceAdd, Int.reduceSub, Int.reduceMul, Int.reduceNeg, Nat.reduceAdd, Nat.reduceMul, Nat.add_zero, Nat.mul_zero, Nat.zero_add, am_zb0, am_zb1, i0, i1, i2, i3, i4, i5, i6, i7, i8, i9, i10, i11, i12, i13, i14, sg_X12_isOwnHere_66, sg_X12_isOwnHere_142, sg_X12_isOwnHere_218, sg_X12_isOwnHere_294, sg_X12_isOwnHere_326]
  rw [b01_f w14] at i14
  by_cases w15 : tW T n p = (15 : Nat)
  · rw [b01_t (by rw [w15]; decide)]
    rw [b01_t w15] at i15
    rw [sg_X12_isOwnHere_0]
    simp (disch := first | assumption | omega) only [rM hm, ly_csm, ly_cam, ly_cf, ly_kd, ly_ln, ↓Bool.cond_decide, cond_true, cond_false, ↓bI_p, ↓bV_p, ↓bL_p, bIJ_s, bVJ_s, bLJ_s, ↓am_let_s, Nat.blt, Nat.ble, Bool.and_true, Bool.true_and, Bool.and_self, Int.cast_ofNat_Int, am_i_add, am_i_sub, am_i_mul, am_ok_i, am_i_cl, n_lt, n_le, n_eq, n_lt0, n_le0, n_0lt, n_0le, n_eq0, ne_eq, ↓reduceIte, not_true_eq_false, not_false_eq_true, and_true, true_and, and_false, false_and, eq_T, eq_F, lt_T, lt_F, le_T, le_F, qn_T, qn_F, and_F, b01_T, b01_F, e_isIn, Int32.toInt_toInt64, am_i_toInt, am_l_toInt, Int.toNat_natCast, Int.reduceToNat, Int.reduceAdd, Int.reduceSub, Int.reduceMul, Int.reduceNeg, Nat.reduceAdd, Nat.reduceMul, Nat.add_zero, Nat.mul_zero, Nat.zero_add, am_zb0, am_zb1, i0, i1, i2, i3, i4, i5, i6, i7, i8, i9, i10, i11, i12, i13, i14, i15, sg_X12_isOwnHere_66, sg_X12_isOwnHere_142, sg_X12_isOwnHere_218, sg_X12_isOwnHere_294, sg_X12_isOwnHere_326]
  rw [b01_f w15] at i15
  by_cases w16 : tW T n p = (16 : Nat)
  · rw [b01_t (by rw [w16]; decide)]
    rw [b01_t w16] at i16
    rw [sg_X12_isOwnHere_0]
    simp (disch := first | assumption | omega) only [rM hm, ly_csm, ly_cam, ly_cf, ly_kd, ly_ln, ↓Bool.cond_decide, cond_true, cond_false, ↓bI_p, ↓bV_p, ↓bL_p, bIJ_s, bVJ_s, bLJ_s, ↓am_let_s, Nat.blt, Nat.ble, Bool.and_true, Bool.true_and, Bool.and_self, Int.cast_ofNat_Int, am_i_add, am_i_sub, am_i_mul, am_ok_i, am_i_cl, n_lt, n_le, n_eq, n_lt0, n_le0, n_0lt, n_0le, n_eq0, ne_eq, ↓reduceIte, not_true_eq_false, not_false_eq_true, and_true, true_and, and_false, false_and, eq_T, eq_F, lt_T, lt_F, le_T, le_F, qn_T, qn_F, and_F, b01_T, b01_F, e_isIn, Int32.toInt_toInt64, am_i_toInt, am_l_toInt, Int.toNat_natCast, Int.reduceToNat, Int.reduceAdd, Int.reduceSub, Int.reduceMul, Int.reduceNeg, Nat.reduceAdd, Nat.reduceMul, Nat.add_zero, Nat.mul_zero, Nat.zero_add, am_zb0, am_zb1, i0, i1, i2, i3, i4, i5, i6, i7, i8, i9, i10, i11, i12, i13, i14, i15, i16, sg_X12_isOwnHere_66, sg_X12_isOwnHere_142, sg_X12_isOwnHere_218, sg_X12_isOwnHere_294, sg_X12_isOwnHere_326]
  rw [b01_f w16] at i16
  by_cases w17 : tW T n p = (17 : Nat)
  · rw [b01_t (by rw [w17]; decide)]
    rw [b01_t w17] at i17
    rw [sg_X12_isOwnHere_0]
    simp (disch := first | assumption | omega) only [rM hm, ly_csm, ly_cam, ly_cf, ly_kd, ly_ln, ↓Bool.cond_decide, cond_true, cond_false, ↓bI_p, ↓bV_p, ↓bL_p, bIJ_s, bVJ_s, bLJ_s, ↓am_let_s, Nat.blt, Nat.ble, Bool.and_true, Bool.true_and, Bool.and_self, Int.cast_ofNat_Int, am_i_add, am_i_sub, am_i_mul, am_ok_i, am_i_cl, n_lt, n_le, n_eq, n_lt0, n_le0, n_0lt, n_0le, n_eq0, ne_eq, ↓reduceIte, not_true_eq_false, not_false_eq_true, and_true, true_and, and_false, false_and, eq_T, eq_F, lt_T, lt_F, le_T, le_F, qn_T, qn_F, and_F, b01_T, b01_F, e_isIn, Int32.toInt_toInt64, am_i_toInt, am_l_toInt, Int.toNat_natCast, Int.reduceToNat, Int.reduceAdd, Int.reduceSub, Int.reduceMul, Int.reduceNeg, Nat.reduceAdd, Nat.reduceMul, Nat.add_zero, Nat.mul_zero, Nat.zero_add, am_zb0, am_zb1, i0, i1, i2, i3, i4, i5, i6, i7, i8, i9, i10, i11, i12, i13, i14, i15, i16, i17, sg_X12_isOwnHere_66, sg_X12_isOwnHere_142, sg_X12_isOwnHere_218, sg_X12_isOwnHere_294, sg_X12_isOwnHere_326]
  rw [b01_f w17] at i17
  by_cases w18 : tW T n p = (18 : Nat)
  · rw [b01_t (by rw [w18]; decide)]
    rw [b01_t w18] at i18
    rw [sg_X12_isOwnHere_0]
    simp (disch := first | assumption | omega) only [rM hm, ly_csm, ly_cam, ly_cf, ly_kd, ly_ln, ↓Bool.cond_decide, cond_true, cond_false, ↓bI_p, ↓bV_p, ↓bL_p, bIJ_s, bVJ_s, bLJ_s, ↓am_let_s, Nat.blt, Nat.ble, Bool.and_true, Bool.true_and, Bool.and_self, Int.cast_ofNat_Int, am_i_add, am_i_sub, am_i_mul, am_ok_i, am_i_cl, n_lt, n_le, n_eq, n_lt0, n_le0, n_0lt, n_0le, n_eq0, ne_eq, ↓reduceIte, not_true_eq_false, not_false_eq_true, and_true, true_and, and_false, false_and, eq_T, eq_F, lt_T, lt_F, le_T, le_F, qn_T, qn_F, and_F, b01_T, b01_F, e_isIn, Int32.toInt_toInt64, am_i_toInt, am_l_toInt, Int.toNat_natCast, Int.reduceToNat, Int.reduceAdd, Int.reduceSub, Int.reduceMul, Int.reduceNeg, Nat.reduceAdd, Nat.reduceMul, Nat.add_zero, Nat.mul_zero, Nat.zero_add, am_zb0, am_zb1, i0, i1, i2, i3, i4, i5, i6, i7, i8, i9, i10, i11, i12, i13, i14, i15, i16, i17, i18, sg_X12_isOwnHere_66, sg_X12_isOwnHere_142, sg_X12_isOwnHere_218, sg_X12_isOwnHere_294, sg_X12_isOwnHere_326]
  rw [b01_f w18] at i18
  by_cases w19 : tW T n p = (19 : Nat)
  · rw [b01_t (by rw [w19]; decide)]
    rw [b01_t w19] at i19
    rw [sg_X12_isOwnHere_0]
    simp (disch := first | assumption | omega) only [rM hm, ly_csm, ly_cam, ly_cf, ly_kd, ly_ln, ↓Bool.cond_decide, cond_true, cond_false, ↓bI_p, ↓bV_p, ↓bL_p, bIJ_s, bVJ_s, bLJ_s, ↓am_let_s, Nat.blt, Nat.ble, Bool.and_true, Bool.true_and, Bool.and_self, Int.cast_ofNat_Int, am_i_add, am_i_sub, am_i_mul, am_ok_i, am_i_cl, n_lt, n_le, n_eq, n_lt0, n_le0, n_0lt, n_0le, n_eq0, ne_eq, ↓reduceIte, not_true_eq_false, not_false_eq_true, and_true, true_and, and_false, false_and, eq_T, eq_F, lt_T, lt_F, le_T, le_F, qn_T, qn_F, and_F, b01_T, b01_F, e_isIn, Int32.toInt_toInt64, am_i_toInt, am_l_toInt, Int.toNat_natCast, Int.reduceToNat, Int.reduceAdd, Int.reduceSub, Int.reduceMul, Int.reduceNeg, Nat.reduceAdd, Nat.reduceMul, Nat.add_zero, Nat.mul_zero, Nat.zero_add, am_zb0, am_zb1, i0, i1, i2, i3, i4, i5, i6, i7, i8, i9, i10, i11, i12, i13, i14, i15, i16, i17, i18, i19, sg_X12_isOwnHere_66, sg_X12_isOwnHere_142, sg_X12_isOwnHere_218, sg_X12_isOwnHere_294, sg_X12_isOwnHere_326]
  rw [b01_f w19] at i19
  by_cases w20 : tW T n p = (20 : Nat)
  · rw [b01_t (by rw [w20]; decide)]
    rw [b01_t w20] at i20
    rw [sg_X12_isOwnHere_0]
    simp (disch := first | assumption | omega) only [rM hm, ly_csm, ly_cam, ly_cf, ly_kd, ly_ln, ↓Bool.cond_decide, cond_true, cond_false, ↓bI_p, ↓bV_p, ↓bL_p, bIJ_s, bVJ_s, bLJ_s, ↓am_let_s, Nat.blt, Nat.ble, Bool.and_true, Bool.true_and, Bool.and_self, Int.cast_ofNat_Int, am_i_add, am_i_sub, am_i_mul, am_ok_i, am_i_cl, n_lt, n_le, n_eq, n_lt0, n_le0, n_0lt, n_0le, n_eq0, ne_eq, ↓reduceIte, not_true_eq_false, not_false_eq_true, and_true, true_and, and_false, false_and, eq_T, eq_F, lt_T, lt_F, le_T, le_F, qn_T, qn_F, and_F, b01_T, b01_F, e_isIn, Int32.toInt_toInt64, am_i_toInt, am_l_toInt, Int.toNat_natCast, Int.reduceToNat, Int.reduceAdd, Int.reduceSub, Int.reduceMul, Int.reduceNeg, Nat.reduceAdd, Nat.reduceMul, Nat.add_zero, Nat.mul_zero, Nat.zero_add, am_zb0, am_zb1, i0, i1, i2, i3, i4, i5, i6, i7, i8, i9, i10, i11, i12, i13, i14, i15, i16, i17, i18, i19, i20, sg_X12_isOwnHere_66, sg_X12_isOwnHere_142, sg_X12_isOwnHere_218, sg_X12_isOwnHere_294, sg_X12_isOwnHere_326]
  rw [b01_f w20] at i20
  by_cases w21 : tW T n p = (21 : Nat)
  · rw [b01_t (by rw [w21]; decide)]
    rw [b01_t w21] at i21
    rw [sg_X12_isOwnHere_0]
    simp (disch := first | assumption | omega) only [rM hm, ly_csm, ly_cam, ly_cf, ly_kd, ly_ln, ↓Bool.cond_decide, cond_true, cond_false, ↓bI_p, ↓bV_p, ↓bL_p, bIJ_s, bVJ_s, bLJ_s, ↓am_let_s, Nat.blt, Nat.ble, Bool.and_true, Bool.true_and, Bool.and_self, Int.cast_ofNat_Int, am_i_add, am_i_sub, am_i_mul, am_ok_i, am_i_cl, n_lt, n_le, n_eq, n_lt0, n_le0, n_0lt, n_0le, n_eq0, ne_eq, ↓reduceIte, not_true_eq_false, not_false_eq_true, and_true, true_and, and_false, false_and, eq_T, eq_F, lt_T, lt_F, le_T, le_F, qn_T, qn_F, and_F, b01_T, b01_F, e_isIn, Int32.toInt_toInt64, am_i_toInt, am_l_toInt, Int.toNat_natCast, Int.reduceToNat, Int.reduceAdd, Int.reduceSub, Int.reduceMul, Int.reduceNeg, Nat.reduceAdd, Nat.reduceMul, Nat.add_zero, Nat.mul_zero, Nat.zero_add, am_zb0, am_zb1, i0, i1, i2, i3, i4, i5, i6, i7, i8, i9, i10, i11, i12, i13, i14, i15, i16, i17, i18, i19, i20, i21, sg_X12_isOwnHere_66, sg_X12_isOwnHere_142, sg_X12_isOwnHere_218, sg_X12_isOwnHere_294, sg_X12_isOwnHere_326]
  rw [b01_f w21] at i21
  by_cases w22 : tW T n p = (22 : Nat)
  · rw [b01_t (by rw [w22]; decide)]
    rw [b01_t w22] at i22
    rw [sg_X12_isOwnHere_0]
    simp (disch := first | assumption | omega) only [rM hm, ly_csm, ly_cam, ly_cf, ly_kd, ly_ln, ↓Bool.cond_decide, cond_true, cond_false, ↓bI_p, ↓bV_p, ↓bL_p, bIJ_s, bVJ_s, bLJ_s, ↓am_let_s, Nat.blt, Nat.ble, Bool.and_true, Bool.true_and, Bool.and_self, Int.cast_ofNat_Int, am_i_add, am_i_sub, am_i_mul, am_ok_i, am_i_cl, n_lt, n_le, n_eq, n_lt0, n_le0, n_0lt, n_0le, n_eq0, ne_eq, ↓reduceIte, not_true_eq_false, not_false_eq_true, and_true, true_and, and_false, false_and, eq_T, eq_F, lt_T, lt_F, le_T, le_F, qn_T, qn_F, and_F, b01_T, b01_F, e_isIn, Int32.toInt_toInt64, am_i_toInt, am_l_toInt, Int.toNat_natCast, Int.reduceToNat, Int.reduceAdd, Int.reduceSub, Int.reduceMul, Int.reduceNeg, Nat.reduceAdd, Nat.reduceMul, Nat.add_zero, Nat.mul_zero, Nat.zero_add, am_zb0, am_zb1, i0, i1, i2, i3, i4, i5, i6, i7, i8, i9, i10, i11, i12, i13, i14, i15, i16, i17, i18, i19, i20, i21, i22, sg_X12_isOwnHere_66, sg_X12_isOwnHere_142, sg_X12_isOwnHere_218, sg_X12_isOwnHere_294, sg_X12_isOwnHere_326]
  rw [b01_f w22] at i22
  by_cases w23 : tW T n p = (23 : Nat)
  · rw [b01_t (by rw [w23]; decide)]
    rw [b01_t w23] at i23
    rw [sg_X12_isOwnHere_0]
    simp (disch := first | assumption | omega) only [rM hm, ly_csm, ly_cam, ly_cf, ly_kd, ly_ln, ↓Bool.cond_decide, cond_true, cond_false, ↓bI_p, ↓bV_p, ↓bL_p, bIJ_s, bVJ_s, bLJ_s, ↓am_let_s, Nat.blt, Nat.ble, Bool.and_true, Bool.true_and, Bool.and_self, Int.cast_ofNat_Int, am_i_add, am_i_sub, am_i_mul, am_ok_i, am_i_cl, n_lt, n_le, n_eq, n_lt0, n_le0, n_0lt, n_0le, n_eq0, ne_eq, ↓reduceIte, not_true_eq_false, not_false_eq_true, and_true, true_and, and_false, false_and, eq_T, eq_F, lt_T, lt_F, le_T, le_F, qn_T, qn_F, and_F, b01_T, b01_F, e_isIn, Int32.toInt_toInt64, am_i_toInt, am_l_toInt, Int.toNat_natCast, Int.reduceToNat, Int.reduceAdd, Int.reduceSub, Int.reduceMul, Int.reduceNeg, Nat.reduceAdd, Nat.reduceMul, Nat.add_zero, Nat.mul_zero, Nat.zero_add, am_zb0, am_zb1, i0, i1, i2, i3, i4, i5, i6, i7, i8, i9, i10, i11, i12, i13, i14, i15, i16, i17, i18, i19, i20, i21, i22, i23, sg_X12_isOwnHere_66, sg_X12_isOwnHere_142, sg_X12_isOwnHere_218, sg_X12_isOwnHere_294, sg_X12_isOwnHere_326]
  rw [b01_f w23] at i23
  by_cases w24 : tW T n p = (24 : Nat)
  · rw [b01_t (by rw [w24]; decide)]
    rw [b01_t w24] at i24
    rw [sg_X12_isOwnHere_0]
    simp (disch := first | assumption | omega) only [rM hm, ly_csm, ly_cam, ly_cf, ly_kd, ly_ln, ↓Bool.cond_decide, cond_true, cond_false, ↓bI_p, ↓bV_p, ↓bL_p, bIJ_s, bVJ_s, bLJ_s, ↓am_let_s, Nat.blt, Nat.ble, Bool.and_true, Bool.true_and, Bool.and_self, Int.cast_ofNat_Int, am_i_add, am_i_sub, am_i_mul, am_ok_i, am_i_cl, n_lt, n_le, n_eq, n_lt0, n_le0, n_0lt, n_0le, n_eq0, ne_eq, ↓reduceIte, not_true_eq_false, not_false_eq_true, and_true, true_and, and_false, false_and, eq_T, eq_F, lt_T, lt_F, le_T, le_F, qn_T, qn_F, and_F, b01_T, b01_F, e_isIn, Int32.toInt_toInt64, am_i_toInt, am_l_toInt, Int.toNat_natCast, Int.reduceToNat, Int.reduceAdd, Int.reduceSub, Int.reduceMul, Int.reduceNeg, Nat.reduceAdd, Nat.reduceMul, Nat.add_zero, Nat.mul_zero, Nat.zero_add, am_zb0, am_zb1, i0, i1, i2, i3, i4, i5, i6, i7, i8, i9, i10, i11, i12, i13, i14, i15, i16, i17, i18, i19, i20, i21, i22, i23, i24, sg_X12_isOwnHere_66, sg_X12_isOwnHere_142, sg_X12_isOwnHere_218, sg_X12_isOwnHere_294, sg_X12_isOwnHere_326]
  rw [b01_f w24] at i24
  by_cases w25 : tW T n p = (25 : Nat)
  · rw [b01_t (by rw [w25]; decide)]
    rw [b01_t w25] at i25
    rw [sg_X12_isOwnHere_0]
    simp (disch := first | assumption | omega) only [rM hm, ly_csm, ly_cam, ly_cf, ly_kd, ly_ln, ↓Bool.cond_decide, cond_true, cond_false, ↓bI_p, ↓bV_p, ↓bL_p, bIJ_s, bVJ_s, bLJ_s, ↓am_let_s, Nat.blt, Nat.ble, Bool.and_true, Bool.true_and, Bool.and_self, Int.cast_ofNat_Int, am_i_add, am_i_sub, am_i_mul, am_ok_i, am_i_cl, n_lt, n_le, n_eq, n_lt0, n_le0, n_0lt, n_0le, n_eq0, ne_eq, ↓reduceIte, not_true_eq_false, not_false_eq_true, and_true, true_and, and_false, false_and, eq_T, eq_F, lt_T, lt_F, le_T, le_F, qn_T, qn_F, and_F, b01_T, b01_F, e_isIn, Int32.toInt_toInt64, am_i_toInt, am_l_toInt, Int.toNat_natCast, Int.reduceToNat, Int.reduceAdd, Int.reduceSub, Int.reduceMul, Int.reduceNeg, Nat.reduceAdd, Nat.reduceMul, Nat.add_zero, Nat.mul_zero, Nat.zero_add, am_zb0, am_zb1, i0, i1, i2, i3, i4, i5, i6, i7, i8, i9, i10, i11, i12, i13, i14, i15, i16, i17, i18, i19, i20, i21, i22, i23, i24, i25, sg_X12_isOwnHere_66, sg_X12_isOwnHere_142, sg_X12_isOwnHere_218, sg_X12_isOwnHere_294, sg_X12_isOwnHere_326]
  rw [b01_f w25] at i25
  rw [b01_f (by omega), sg_X12_isOwnHere_0]
  simp (disch := first | assumption | omega) only [rM hm, ly_csm, ly_cam, ly_cf, ly_kd, ly_ln, ↓Bool.cond_decide, cond_true, cond_false, ↓bI_p, ↓bV_p, ↓bL_p, bIJ_s, bVJ_s, bLJ_s, ↓am_let_s, Nat.blt, Nat.ble, Bool.and_true, Bool.true_and, Bool.and_self, Int.cast_ofNat_Int, am_i_add, am_i_sub, am_i_mul, am_ok_i, am_i_cl, n_lt, n_le, n_eq, n_lt0, n_le0, n_0lt, n_0le, n_eq0, ne_eq, ↓reduceIte, not_true_eq_false, not_false_eq_true, and_true, true_and, and_false, false_and, eq_T, eq_F, lt_T, lt_F, le_T, le_F, qn_T, qn_F, and_F, b01_T, b01_F, e_isIn, Int32.toInt_toInt64, am_i_toInt, am_l_toInt, Int.toNat_natCast, Int.reduceToNat, Int.reduceAdd, Int.reduceSub, Int.reduceMul, Int.reduceNeg, Nat.reduceAdd, Nat.reduceMul, Nat.add_zero, Nat.mul_zero, Nat.zero_add, am_zb0, am_zb1, i0, i1, i2, i3, i4, i5, i6, i7, i8, i9, i10, i11, i12, i13, i14, i15, i16, i17, i18, i19, i20, i21, i22, i23, i24, i25, sg_X12_isOwnHere_66, sg_X12_isOwnHere_142, sg_X12_isOwnHere_218, sg_X12_isOwnHere_294, sg_X12_isOwnHere_326]
theorem m_n58 (hm : st_Rm R) {a : Nat} {I0 : tI} (hT : txM T n I0) (h3 : I0 64 3 = am_i n) (h5 : I0 64 5 = am_i 0) (h37 : I0 64 37 = am_i a) (ha : a ≤ n) : ∀ (m k : Nat) (I : tI), spn lB T n a = a + k + m → k ≤ 6 → I = am_up I0 64 2 (am_i (a + k : Nat)) → am_E (d + 2) 178 58 [(0, .ref 64), (1, .long (am_l (pk27 (rlS T k a) : Nat)))] [] (I, J, R, 138) = (if k + m ≤ 6 then some (some (.long (am_l (pk27 (rlS T (k + m) a) : Nat))), (am_up (am_up I0 64 2 (am_i (a + k + m : Nat))) 64 4 (am_i (a + k + m : Nat)), J, R, 138)) else some (some (.long (am_l 0)), (am_up (am_up (am_up I0 64 2 (am_i (a + 6 : Nat))) 64 5 (am_i 1)) 64 6 (am_i (a + 6 : Nat)), J, R, 138)))
  | 0, k, I, hk, h6, hI => by
    have n1 := hT.1
    have nd := sp_nd (c := lB) (T := T) (n := n) a
    have sl := sp_le (c := lB) (T := T) ha
    rw [hk, Nat.add_zero] at nd
    have e2 : I 64 2 = am_i (a + k : Nat) := by rw [hI, am_up_e]
    have e3 : I 64 3 = am_i n := by rw [hI, am_up_o (by omega)]; exact h3
    rw [if_pos (by omega)]
    simp only [Nat.add_zero]
    rw [← hI]
    rw [sg_X12_name_58]
    by_cases q : a + k < n
    · have nl : ¬ lB (T (a + k)) = true := fun c => nd ⟨q, c⟩
      have nl' : ¬ (97 ≤ (T (a + k) : Int) ∧ (T (a + k) : Int) ≤ 122) := fun c => nl (lB_t.mpr (by omega))
      have t1 := hT.2.1 (a + k) q
      have et : I 65 (a + k) = am_i (T (a + k)) := by rw [hI, am_up_o (by omega)]; exact t1.2
      have xl := fun d => e_mL (d := d) (c := (T (a + k) : Int)) (M := (I, J, R, 138)) (by omega) (by omega)
      simp (disch := first | assumption | omega) only [rM hm, ly_csm, ly_cam, ly_cf, ly_kd, ly_ln, ↓Bool.cond_decide, cond_true, cond_false, ↓bI_p, ↓bV_p, ↓bL_p, bIJ_s, bVJ_s, bLJ_s, ↓am_let_s, Nat.blt, Nat.ble, Bool.and_true, Bool.true_and, Bool.and_self, Int.cast_ofNat_Int, am_i_add, am_i_sub, am_i_mul, am_ok_i, am_i_cl, n_lt, n_le, n_eq, n_lt0, n_le0, n_0lt, n_0le, n_eq0, ne_eq, ↓reduceIte, not_true_eq_false, not_false_eq_true, and_true, true_and, and_false, false_and, eq_T, eq_F, lt_T, lt_F, le_T, le_F, qn_T, qn_F, and_F, b01_T, b01_F, e_isIn, Int32.toInt_toInt64, am_i_toInt, am_l_toInt, Int.toNat_natCast, Int.reduceToNat, Int.reduceAdd, Int.reduceSub, Int.reduceMul, Int.reduceNeg, Nat.reduceAdd, Nat.reduceMul, Nat.add_zero, Nat.mul_zero, Nat.zero_add, am_zb0, am_zb1, e2, e3, et, xl, b01_f nl', sg_X12_name_145]
    · have q' : n ≤ a + k := by omega
      simp (disch := first | assumption | omega) only [rM hm, ly_csm, ly_cam, ly_cf, ly_kd, ly_ln, ↓Bool.cond_decide, cond_true, cond_false, ↓bI_p, ↓bV_p, ↓bL_p, bIJ_s, bVJ_s, bLJ_s, ↓am_let_s, Nat.blt, Nat.ble, Bool.and_true, Bool.true_and, Bool.and_self, Int.cast_ofNat_Int, am_i_add, am_i_sub, am_i_mul, am_ok_i, am_i_cl, n_lt, n_le, n_eq, n_lt0, n_le0, n_0lt, n_0le, n_eq0, ne_eq, ↓reduceIte, not_true_eq_false, not_false_eq_true, and_true, true_and, and_false, false_and, eq_T, eq_F, lt_T, lt_F, le_T, le_F, qn_T, qn_F, and_F, b01_T, b01_F, e_isIn, Int32.toInt_toInt64, am_i_toInt, am_l_toInt, Int.toNat_natCast, Int.reduceToNat, Int.reduceAdd, Int.reduceSub, Int.reduceMul, Int.reduceNeg, Nat.reduceAdd, Nat.reduceMul, Nat.add_zero, Nat.mul_zero, Nat.zero_add, am_zb0, am_zb1, e2, e3, sg_X12_name_145]
  | m + 1, k, I, hk, h6, hI => by
    have n1 := hT.1
    have sl := sp_le (c := lB) (T := T) ha
    obtain ⟨lt, lb⟩ := sp_in (c := lB) (T := T) (n := n) (p := a) (q := a + k) (by omega) (by omega)
    have lb' := lB_t.mp lb
    have nl' : 97 ≤ (T (a + k) : Int) ∧ (T (a + k) : Int) ≤ 122 := by omega
    have t1 := hT.2.1 (a + k) lt
    have e2 : I 64 2 = am_i (a + k : Nat) := by rw [hI, am_up_e]
    have e3 : I 64 3 = am_i n := by rw [hI, am_up_o (by omega)]; exact h3
    have e5 : I 64 5 = am_i 0 := by rw [hI, am_up_o (by omega)]; exact h5
    have e37 : I 64 37 = am_i a := by rw [hI, am_up_o (by omega)]; exact h37
    have et : I 65 (a + k) = am_i (T (a + k)) := by rw [hI, am_up_o (by omega)]; exact t1.2
    have xl := fun d => e_mL (d := d) (c := (T (a + k) : Int)) (M := (I, J, R, 138)) (by omega) (by omega)
    have ek : ((a + k : Nat) : Int) - (a : Int) = (k : Int) := by omega
    by_cases q6 : k = 6
    · subst q6
      have fl := fun d => m_fail (d := d) (J := J) (R := R) (I := I) (v := am_i 1) (w := am_i (a + 6 : Nat)) hm e5
      rw [if_neg (by omega), ← hI, sg_X12_name_58]
      have ek' : ((a + 6 : Nat) : Int) - (a : Int) = 6 := by omega
      simp (disch := first | assumption | omega) only [rM hm, ly_csm, ly_cam, ly_cf, ly_kd, ly_ln, ↓Bool.cond_decide, cond_true, cond_false, ↓bI_p, ↓bV_p, ↓bL_p, bIJ_s, bVJ_s, bLJ_s, ↓am_let_s, Nat.blt, Nat.ble, Bool.and_true, Bool.true_and, Bool.and_self, Int.cast_ofNat_Int, am_i_add, am_i_sub, am_i_mul, am_ok_i, am_i_cl, n_lt, n_le, n_eq, n_lt0, n_le0, n_0lt, n_0le, n_eq0, ne_eq, ↓reduceIte, not_true_eq_false, not_false_eq_true, and_true, true_and, and_false, false_and, eq_T, eq_F, lt_T, lt_F, le_T, le_F, qn_T, qn_F, and_F, b01_T, b01_F, e_isIn, Int32.toInt_toInt64, am_i_toInt, am_l_toInt, Int.toNat_natCast, Int.reduceToNat, Int.reduceAdd, Int.reduceSub, Int.reduceMul, Int.reduceNeg, Nat.reduceAdd, Nat.reduceMul, Nat.add_zero, Nat.mul_zero, Nat.zero_add, am_zb0, am_zb1, e2, e3, et, xl, b01_t nl', e37, ek', fl]
    · have ih := m_n58 hm hT h3 h5 h37 ha m (k + 1) (am_up I 64 2 (am_i (a + (k + 1) : Nat))) (by omega) (by omega) (by rw [hI, am_up_up])
      have ev : am_l 27 * am_l (pk27 (rlS T k a) : Nat) + am_l (T (a + k) : Nat) - am_l 97 + am_l 1 = am_l (pk27 (rlS T (k + 1) a) : Nat) := by
        rw [rlS_s, pk27_s, am_l_mul, am_l_add, am_l_sub, am_l_add]
        congr 1
        omega
      have tl : (am_i (T (a + k) : Nat)).toInt64 = am_l (T (a + k) : Nat) := i_tol (by omega) (by omega)
      have ki : ¬ (k : Int) = 6 := by omega
      have es : am_i ((a + k : Nat) : Int) + am_i 1 = am_i (a + (k + 1) : Nat) := by rw [am_i_add]; rfl
      rw [show a + k + (m + 1) = a + (k + 1) + m by omega, show k + (m + 1) = k + 1 + m by omega, ← ih]
      rw [sg_X12_name_58]
      simp (disch := first | assumption | omega) only [rM hm, ly_csm, ly_cam, ly_cf, ly_kd, ly_ln, ↓Bool.cond_decide, cond_true, cond_false, ↓bI_p, ↓bV_p, ↓bL_p, bIJ_s, bVJ_s, bLJ_s, ↓am_let_s, Nat.blt, Nat.ble, Bool.and_true, Bool.true_and, Bool.and_self, Int.cast_ofNat_Int, am_i_add, am_i_sub, am_i_mul, am_ok_i, am_i_cl, n_lt, n_le, n_eq, n_lt0, n_le0, n_0lt, n_0le, n_eq0, ne_eq, ↓reduceIte, not_true_eq_false, not_false_eq_true, and_true, true_and, and_false, false_and, eq_T, eq_F, lt_T, lt_F, le_T, le_F, qn_T, qn_F, and_F, b01_T, b01_F, e_isIn, Int32.toInt_toInt64, am_i_toInt, am_l_toInt, Int.toNat_natCast, Int.reduceToNat, Int.reduceAdd, Int.reduceSub, Int.reduceMul, Int.reduceNeg, Nat.reduceAdd, Nat.reduceMul, Nat.add_zero, Nat.mul_zero, Nat.zero_add, am_zb0, am_zb1, e2, e3, et, xl, b01_t nl', e37, ek, tl, ev, es]
/-- a name: what it tells, where it began -/
theorem m_name (hm : st_Rm R) (hT : txM T n I) (hp : p ≤ n) (hR : mrX T n p I) : ∃ (v : Int64) (I' : tI), am_E (d + 4) 178 0 [(0, .ref 64)] [] (I, J, R, 138) = some (some (.long v), (I', J, R, 138)) ∧ ((aM T n p).1 = 0 → v = am_l (pk27 (tL T n p) : Nat) ∧ I' 64 37 = am_i (tAt T n p)) ∧ mR T n (aM T n p) I' ∧ ∀ a k, ¬ mlC a k → I' a k = I a k := by
  have lk := fun d => e_look (d := d) (J := J) hm hT hp hR
  have n1 := hT.1
  have tb := tC_b (T := T) (n := n) (p := p) (fun k hk => (hT.2.1 k hk).1)
  have h5 : I 64 5 = am_i 0 := hR.2.1
  have xl := fun d => e_mL (d := d) (c := tC T n p) (M := (atP T n p I, J, R, 138)) tb.1 tb.2
  have hTa := txM_a (p := p) hT
  have hRa := mrX_a hR hp
  have ge := gl_e hT.1 hp hR
  have ab := tAt_b (T := T) hp
  have a2 : atP T n p I 64 2 = am_i (tAt T n p) := atP_2
  rw [a2] at ge
  have a5 : atP T n p I 64 5 = am_i 0 := by rw [atP_o (by omega)]; exact h5
  have ow := fun d => m_own (d := d) (J := J) hm hT hp hR
  have fl := fun d => m_fail (d := d) (J := J) (R := R) (I := atP T n p I) (v := am_i 1) (w := am_i (tAt T n p)) hm a5
  have bad : mR T n (1, tAt T n p) (am_up (am_up (atP T n p I) 64 5 (am_i 1)) 64 6 (am_i (tAt T n p))) := ⟨fun z => absurd z (by show ¬ ((1 : Nat) = 0); decide), fun _ => ⟨by show (1 : Nat) < 9; decide, by rw [am_up_o (by omega), am_up_e]; rfl, am_up_e⟩⟩
  have badF : ∀ a k, ¬ mlC a k → am_up (am_up (atP T n p I) 64 5 (am_i 1)) 64 6 (am_i (tAt T n p)) a k = I a k := fun a k z => by unfold mlC at z; rw [am_up_o (by omega), am_up_o (by omega), atP_o (by omega)]
  unfold aM
  by_cases k1 : tK T n p = 1
  · rw [if_pos k1]
    obtain ⟨b1, b2, b3⟩ := tK_1.mp k1
    have ec : tC T n p = (T (tAt T n p) : Int) := if_pos b1
    have l1 : 97 ≤ tC T n p ∧ tC T n p ≤ 122 := by rw [lB_t] at b2; rw [ec]; omega
    have g' : (am_i (tAt T n p : Int) = atP T n p I 64 4) = False := by rw [ge]; exact eq_false b3
    have eE := tE_1 k1
    have tnE : tAt T n p + tN T n p = tE T n p := by unfold tN; have := tE_b (T := T) hp; omega
    by_cases w26 : 0 ≤ tW T n p ∧ tW T n p < 26
    · have t6 : ¬ 6 < tN T n p := by
        obtain ⟨w, hw⟩ : ∃ w : Nat, tW T n p = w := ⟨(tW T n p).toNat, by omega⟩
        have := tN_w (T := T) (n := n) (p := p) (w := w) (by omega) hw
        have wb := (WL_b ⟨w, by omega⟩).2.1
        have wb' : (WL w).length ≤ 6 := wb
        omega
      rw [if_neg t6, if_pos w26]
      refine ⟨am_l 0, _, ?_, fun z => absurd z (by show ¬ ((1 : Nat) = 0); decide), bad, badF⟩
      rw [sg_X12_name_0]
      simp (disch := first | assumption | omega) only [rM hm, ly_csm, ly_cam, ly_cf, ly_kd, ly_ln, ↓Bool.cond_decide, cond_true, cond_false, ↓bI_p, ↓bV_p, ↓bL_p, bIJ_s, bVJ_s, bLJ_s, ↓am_let_s, Nat.blt, Nat.ble, Bool.and_true, Bool.true_and, Bool.and_self, Int.cast_ofNat_Int, am_i_add, am_i_sub, am_i_mul, am_ok_i, am_i_cl, n_lt, n_le, n_eq, n_lt0, n_le0, n_0lt, n_0le, n_eq0, ne_eq, ↓reduceIte, not_true_eq_false, not_false_eq_true, and_true, true_and, and_false, false_and, eq_T, eq_F, lt_T, lt_F, le_T, le_F, qn_T, qn_F, and_F, b01_T, b01_F, e_isIn, Int32.toInt_toInt64, am_i_toInt, am_l_toInt, Int.toNat_natCast, Int.reduceToNat, Int.reduceAdd, Int.reduceSub, Int.reduceMul, Int.reduceNeg, Nat.reduceAdd, Nat.reduceMul, Nat.add_zero, Nat.mul_zero, Nat.zero_add, am_zb0, am_zb1, h5, lk, xl, b01_t l1, a2, g', ow, b01_t w26, sg_X12_name_37, fl]
    · obtain ⟨K, hK⟩ : ∃ K, K = am_up (atP T n p I) 64 37 (am_i (tAt T n p)) := ⟨_, rfl⟩
      have hTk : txM T n K := txM_m hTa (fun q k e => by rw [hK, am_up_o (by unfold mlC at e; omega)])
      have k2 : K 64 2 = am_i (tAt T n p) := by rw [hK, am_up_o (by omega)]; exact a2
      have w58 := m_n58 (d := d + 2) (J := J) (a := tAt T n p) (I0 := K) hm hTk (by rw [hK, am_up_o (by omega), atP_o (by omega)]; exact hR.1) (by rw [hK, am_up_o (by omega)]; exact a5) (by rw [hK, am_up_e]) ab.2 (tN T n p) 0 K (by rw [← eE]; omega) (by omega) (by rw [Nat.add_zero]; exact (am_up_s k2).symm)
      have p0 : pk27 (rlS T 0 (tAt T n p)) = 0 := rfl
      rw [p0] at w58
      simp only [Nat.zero_add, Nat.add_zero, tnE] at w58
      have w58' : am_E (d + 4) 178 58 [(0, .ref 64), (1, .long (am_l 0))] [] (K, J, R, 138) = _ := w58
      have run : ∀ X, am_E (d + 4) 178 58 [(0, .ref 64), (1, .long (am_l 0))] [] (K, J, R, 138) = X → am_E (d + 4) 178 0 [(0, .ref 64)] [] (I, J, R, 138) = X := fun X hX => by
        rw [← hX, sg_X12_name_0]
        simp (disch := first | assumption | omega) only [rM hm, ly_csm, ly_cam, ly_cf, ly_kd, ly_ln, ↓Bool.cond_decide, cond_true, cond_false, ↓bI_p, ↓bV_p, ↓bL_p, bIJ_s, bVJ_s, bLJ_s, ↓am_let_s, Nat.blt, Nat.ble, Bool.and_true, Bool.true_and, Bool.and_self, Int.cast_ofNat_Int, am_i_add, am_i_sub, am_i_mul, am_ok_i, am_i_cl, n_lt, n_le, n_eq, n_lt0, n_le0, n_0lt, n_0le, n_eq0, ne_eq, ↓reduceIte, not_true_eq_false, not_false_eq_true, and_true, true_and, and_false, false_and, eq_T, eq_F, lt_T, lt_F, le_T, le_F, qn_T, qn_F, and_F, b01_T, b01_F, e_isIn, Int32.toInt_toInt64, am_i_toInt, am_l_toInt, Int.toNat_natCast, Int.reduceToNat, Int.reduceAdd, Int.reduceSub, Int.reduceMul, Int.reduceNeg, Nat.reduceAdd, Nat.reduceMul, Nat.add_zero, Nat.mul_zero, Nat.zero_add, am_zb0, am_zb1, h5, lk, xl, b01_t l1, a2, g', ow, b01_f w26, ← hK]
      by_cases t6 : 6 < tN T n p
      · rw [if_pos t6]
        rw [if_neg (by omega)] at w58'
        refine ⟨am_l 0, _, run _ w58', fun z => absurd z (by show ¬ ((1 : Nat) = 0); decide), ⟨fun z => absurd z (by show ¬ ((1 : Nat) = 0); decide), fun _ => ⟨by show (1 : Nat) < 9; decide, by rw [am_up_o (by omega), am_up_e]; rfl, am_up_e⟩⟩, fun a k z => ?_⟩
        unfold mlC at z
        rw [am_up_o (by omega), am_up_o (by omega), am_up_o (by omega), hK, am_up_o (by omega), atP_o (by omega)]
      · rw [if_neg t6, if_neg w26]
        rw [if_pos (by omega)] at w58'
        refine ⟨_, _, run _ w58', fun _ => ⟨rfl, ?_⟩, ⟨fun _ => ⟨mrX_e ?_ ?_ am_up_e ?_ (gP_1 (Or.inl k1) hp) ?_, (tE_b (T := T) hp).2.1⟩, fun z => absurd rfl z⟩, fun a k z => ?_⟩
        · rw [am_up_o (by omega), am_up_o (by omega), hK, am_up_e]
        · rw [am_up_o (by omega), am_up_e]
        · rw [am_up_o (by omega), am_up_o (by omega), hK, am_up_o (by omega), atP_o (by omega)]; exact hR.1
        · rw [am_up_o (by omega), am_up_o (by omega), hK, am_up_o (by omega)]; exact a5
        · rw [am_up_o (by omega), am_up_o (by omega), hK, am_up_o (by omega), atP_o (by omega)]; exact mrX_6 hR
        · unfold mlC at z
          rw [am_up_o (by omega), am_up_o (by omega), hK, am_up_o (by omega), atP_o (by omega)]
  · rw [if_neg k1]
    refine ⟨am_l 0, _, ?_, fun z => absurd z (by show ¬ ((1 : Nat) = 0); decide), bad, badF⟩
    rw [sg_X12_name_0]
    by_cases l1 : 97 ≤ tC T n p ∧ tC T n p ≤ 122
    · have g' : am_i (tAt T n p : Int) = atP T n p I 64 4 := by
        rw [ge]
        by_cases z : tGl T p (tAt T n p) = true
        · exact z
        · exfalso
          have lt : tAt T n p < n := by
            by_cases c : tAt T n p < n
            · exact c
            · have : tC T n p = -1 := if_neg c
              omega
          have ec : tC T n p = (T (tAt T n p) : Int) := if_pos lt
          exact k1 (tK_1.mpr ⟨lt, lB_t.mpr (by omega), z⟩)
      have g'' : (am_i (tAt T n p : Int) = atP T n p I 64 4) = True := eq_true g'
      simp (disch := first | assumption | omega) only [rM hm, ly_csm, ly_cam, ly_cf, ly_kd, ly_ln, ↓Bool.cond_decide, cond_true, cond_false, ↓bI_p, ↓bV_p, ↓bL_p, bIJ_s, bVJ_s, bLJ_s, ↓am_let_s, Nat.blt, Nat.ble, Bool.and_true, Bool.true_and, Bool.and_self, Int.cast_ofNat_Int, am_i_add, am_i_sub, am_i_mul, am_ok_i, am_i_cl, n_lt, n_le, n_eq, n_lt0, n_le0, n_0lt, n_0le, n_eq0, ne_eq, ↓reduceIte, not_true_eq_false, not_false_eq_true, and_true, true_and, and_false, false_and, eq_T, eq_F, lt_T, lt_F, le_T, le_F, qn_T, qn_F, and_F, b01_T, b01_F, e_isIn, Int32.toInt_toInt64, am_i_toInt, am_l_toInt, Int.toNat_natCast, Int.reduceToNat, Int.reduceAdd, Int.reduceSub, Int.reduceMul, Int.reduceNeg, Nat.reduceAdd, Nat.reduceMul, Nat.add_zero, Nat.mul_zero, Nat.zero_add, am_zb0, am_zb1, h5, lk, xl, b01_t l1, a2, g'', sg_X12_name_37, fl]
    · simp (disch := first | assumption | omega) only [rM hm, ly_csm, ly_cam, ly_cf, ly_kd, ly_ln, ↓Bool.cond_decide, cond_true, cond_false, ↓bI_p, ↓bV_p, ↓bL_p, bIJ_s, bVJ_s, bLJ_s, ↓am_let_s, Nat.blt, Nat.ble, Bool.and_true, Bool.true_and, Bool.and_self, Int.cast_ofNat_Int, am_i_add, am_i_sub, am_i_mul, am_ok_i, am_i_cl, n_lt, n_le, n_eq, n_lt0, n_le0, n_0lt, n_0le, n_eq0, ne_eq, ↓reduceIte, not_true_eq_false, not_false_eq_true, and_true, true_and, and_false, false_and, eq_T, eq_F, lt_T, lt_F, le_T, le_F, qn_T, qn_F, and_F, b01_T, b01_F, e_isIn, Int32.toInt_toInt64, am_i_toInt, am_l_toInt, Int.toNat_natCast, Int.reduceToNat, Int.reduceAdd, Int.reduceSub, Int.reduceMul, Int.reduceNeg, Nat.reduceAdd, Nat.reduceMul, Nat.add_zero, Nat.mul_zero, Nat.zero_add, am_zb0, am_zb1, h5, lk, xl, b01_f l1, sg_X12_name_37, a2, fl]
end MSD
