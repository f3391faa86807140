/-! ===== what is kept ===== -/
abbrev ent : Type := Nat × Nat × Nat
def keptG (g : Nat → Int32) (L : List ent) : Prop := g 67 = am_i (min 40 L.length : Nat) ∧ ∀ k, k < min 40 L.length → ∀ e, L[L.length - min 40 L.length + k]? = some e → g (68 + 3 * k) = am_i e.1 ∧ g (69 + 3 * k) = am_i e.2.1 ∧ g (70 + 3 * k) = am_i e.2.2
theorem keptG_c {g g' : Nat → Int32} {L : List ent} (h : keptG g L) (e : ∀ k, 67 ≤ k → g' k = g k) : keptG g' L := by
  refine ⟨by rw [e 67 (by omega)]; exact h.1, fun k hk x hx => ?_⟩
  rw [e _ (by omega), e _ (by omega), e _ (by omega)]
  exact h.2 k hk x hx
section KEPT
variable {d : Nat} {J : tJ} {R : tR}
theorem m_keptT {I : tI} {a b : Int32} (h : I 64 58 = am_i 1) : am_E (d + 1) 209 0 [(0, .ref 64), (1, .int a), (2, .int b)] [] (I, J, R, 138) = some (none, (I, J, R, 138)) := by
  rw [sg_X12_isKept_0]
  simp (disch := first | assumption | omega) only [am_i_add, am_i_sub, am_i_mul, am_ok_i, am_i_cl, n_lt, n_le, n_eq, n_lt0, n_le0, n_0lt, n_0le, n_eq0, ne_eq, ↓reduceIte, not_true_eq_false, not_false_eq_true, and_true, true_and, and_false, false_and, eq_T, eq_F, lt_T, lt_F, le_T, le_F, qn_T, qn_F, and_F, b01_T, b01_F, e_isIn, Int32.toInt_toInt64, am_i_toInt, am_l_toInt, Int.toNat_natCast, Int.reduceToNat, Int.reduceAdd, Int.reduceSub, Int.reduceMul, Int.reduceNeg, Nat.reduceAdd, Nat.reduceMul, Nat.add_zero, Nat.mul_zero, Nat.zero_add, am_zb0, am_zb1, ly_cf, ↓Bool.cond_decide, cond_true, cond_false, h]
theorem m_shift {x y : Int32} (hm : st_Rm R) : ∀ (n a : Nat) (I : tI), a + n = 185 → 68 ≤ a → ∃ I', am_E (d + 1) 209 23 [(0, .ref 64), (1, .int x), (2, .int y), (3, .int (am_i a))] [] (I, J, R, 138) = am_E (d + 1) 209 64 [(0, .ref 64), (1, .int x), (2, .int y)] [] (I', J, R, 138) ∧ (∀ q k, ¬ (q = 103 ∧ a ≤ k ∧ k < 185) → I' q k = I q k) ∧ ∀ k, a ≤ k → k < 185 → I' 103 k = I 103 (k + 3)
  | 0, a, I, h, h68 => by
    refine ⟨I, ?_, fun _ _ _ => rfl, fun k h1 h2 => absurd h2 (by omega)⟩
    rw [sg_X12_isKept_23]
    simp (disch := first | assumption | omega) only [rM hm, ly_csm, ly_cam, ly_cf, ly_kd, ly_ln, ↓Bool.cond_decide, cond_true, cond_false, ↓bI_p, ↓bV_p, ↓bL_p, bIJ_s, bVJ_s, bLJ_s, ↓am_let_s, Nat.blt, Nat.ble, Bool.and_true, Bool.true_and, Bool.and_self, Int.cast_ofNat_Int, am_i_add, am_i_sub, am_i_mul, am_ok_i, am_i_cl, n_lt, n_le, n_eq, n_lt0, n_le0, n_0lt, n_0le, n_eq0, ne_eq, ↓reduceIte, not_true_eq_false, not_false_eq_true, and_true, true_and, and_false, false_and, eq_T, eq_F, lt_T, lt_F, le_T, le_F, qn_T, qn_F, and_F, b01_T, b01_F, e_isIn, Int32.toInt_toInt64, am_i_toInt, am_l_toInt, Int.toNat_natCast, Int.reduceToNat, Int.reduceAdd, Int.reduceSub, Int.reduceMul, Int.reduceNeg, Nat.reduceAdd, Nat.reduceMul, Nat.add_zero, Nat.mul_zero, Nat.zero_add, am_zb0, am_zb1]
  | n + 1, a, I, h, h68 => by
    have e1 : ((a : Int) + 3).toNat = a + 3 := by omega
    obtain ⟨I', g1, g2, g3⟩ := m_shift hm n (a + 1) (am_up I 103 a (I 103 (a + 3))) (by omega) (by omega)
    refine ⟨I', ?_, fun q k h => ?_, fun k h1 h2 => ?_⟩
    · rw [← g1, sg_X12_isKept_23]
      simp (disch := first | assumption | omega) only [rM hm, ly_csm, ly_cam, ly_cf, ly_kd, ly_ln, ↓Bool.cond_decide, cond_true, cond_false, ↓bI_p, ↓bV_p, ↓bL_p, bIJ_s, bVJ_s, bLJ_s, ↓am_let_s, Nat.blt, Nat.ble, Bool.and_true, Bool.true_and, Bool.and_self, Int.cast_ofNat_Int, am_i_add, am_i_sub, am_i_mul, am_ok_i, am_i_cl, n_lt, n_le, n_eq, n_lt0, n_le0, n_0lt, n_0le, n_eq0, ne_eq, ↓reduceIte, not_true_eq_false, not_false_eq_true, and_true, true_and, and_false, false_and, eq_T, eq_F, lt_T, lt_F, le_T, le_F, qn_T, qn_F, and_F, b01_T, b01_F, e_isIn, Int32.toInt_toInt64, am_i_toInt, am_l_toInt, Int.toNat_natCast, Int.reduceToNat, Int.reduceAdd, Int.reduceSub, Int.reduceMul, Int.reduceNeg, Nat.reduceAdd, Nat.reduceMul, Nat.add_zero, Nat.mul_zero, Nat.zero_add, am_zb0, am_zb1, e1, am_i_s]
    · rw [g2 q k (by omega), am_up_o (by omega)]
    · by_cases q : k = a
      · subst q
        rw [g2 _ _ (by omega), am_up_e]
      · rw [g3 k (by omega) h2, am_up_o (by omega)]
theorem m_kept64 {I : tI} {h x b w : Nat} (hm : st_Rm R) (h0 : I 103 0 = am_i h) (h67 : I 103 67 = am_i x) (hx1 : 1 ≤ x) (hx : x ≤ 40) : am_E (d + 1) 209 64 [(0, .ref 64), (1, .int (am_i b)), (2, .int (am_i w))] [] (I, J, R, 138) = some (none, (am_up (am_up (am_up I 103 (65 + 3 * x) (am_i h)) 103 (66 + 3 * x) (am_i b)) 103 (67 + 3 * x) (am_i w), J, R, 138)) := by
  have e1 : ((68 : Int) + 3 * (x : Int) - 3).toNat = 65 + 3 * x := by omega
  have e2 : ((68 : Int) + 3 * (x : Int) - 3 + 1).toNat = 66 + 3 * x := by omega
  have e3 : ((68 : Int) + 3 * (x : Int) - 3 + 2).toNat = 67 + 3 * x := by omega
  rw [sg_X12_isKept_64]
  simp (disch := first | assumption | omega) only [rM hm, ly_csm, ly_cam, ly_cf, ly_kd, ly_ln, ↓Bool.cond_decide, cond_true, cond_false, ↓bI_p, ↓bV_p, ↓bL_p, bIJ_s, bVJ_s, bLJ_s, ↓am_let_s, Nat.blt, Nat.ble, Bool.and_true, Bool.true_and, Bool.and_self, Int.cast_ofNat_Int, am_i_add, am_i_sub, am_i_mul, am_ok_i, am_i_cl, n_lt, n_le, n_eq, n_lt0, n_le0, n_0lt, n_0le, n_eq0, ne_eq, ↓reduceIte, not_true_eq_false, not_false_eq_true, and_true, true_and, and_false, false_and, eq_T, eq_F, lt_T, lt_F, le_T, le_F, qn_T, qn_F, and_F, b01_T, b01_F, e_isIn, Int32.toInt_toInt64, am_i_toInt, am_l_toInt, Int.toNat_natCast, Int.reduceToNat, Int.reduceAdd, Int.reduceSub, Int.reduceMul, Int.reduceNeg, Nat.reduceAdd, Nat.reduceMul, Nat.add_zero, Nat.mul_zero, Nat.zero_add, am_zb0, am_zb1, h67, h0, e1, e2, e3]
theorem m_kept {I : tI} {L : List ent} {h b w : Nat} (hm : st_Rm R) (h58 : I 64 58 = am_i 0) (h0 : I 103 0 = am_i h) (hK : keptG (I 103) L) : Wp (fun r M => ∃ I', r = none ∧ M = (I', J, R, 138) ∧ (∀ q k, ¬ (q = 103 ∧ 67 ≤ k) → I' q k = I q k) ∧ keptG (I' 103) (L ++ [(h, b, w)])) (am_E (d + 1) 209 0 [(0, .ref 64), (1, .int (am_i b)), (2, .int (am_i w))] [] (I, J, R, 138)) := by
  obtain ⟨k1, k2⟩ := hK
  rw [sg_X12_isKept_0]
  by_cases q : L.length < 40
  · have m1 : min 40 L.length = L.length := by omega
    rw [m1] at k1 k2
    have z : ∀ v, am_up I 103 67 v 103 67 = v := fun v => am_up_e
    have k64 := m_kept64 (d := d) (J := J) (I := am_up I 103 67 (am_i ((L.length + 1 : Nat) : Int))) (h := h) (x := L.length + 1) (b := b) (w := w) hm (by rw [am_up_o (by omega)]; exact h0) am_up_e (by omega) (by omega)
    simp (disch := first | assumption | omega) only [rM hm, ly_csm, ly_cam, ly_cf, ly_kd, ly_ln, ↓Bool.cond_decide, cond_true, cond_false, ↓bI_p, ↓bV_p, ↓bL_p, bIJ_s, bVJ_s, bLJ_s, ↓am_let_s, Nat.blt, Nat.ble, Bool.and_true, Bool.true_and, Bool.and_self, Int.cast_ofNat_Int, am_i_add, am_i_sub, am_i_mul, am_ok_i, am_i_cl, n_lt, n_le, n_eq, n_lt0, n_le0, n_0lt, n_0le, n_eq0, ne_eq, ↓reduceIte, not_true_eq_false, not_false_eq_true, and_true, true_and, and_false, false_and, eq_T, eq_F, lt_T, lt_F, le_T, le_F, qn_T, qn_F, and_F, b01_T, b01_F, e_isIn, Int32.toInt_toInt64, am_i_toInt, am_l_toInt, Int.toNat_natCast, Int.reduceToNat, Int.reduceAdd, Int.reduceSub, Int.reduceMul, Int.reduceNeg, Nat.reduceAdd, Nat.reduceMul, Nat.add_zero, Nat.mul_zero, Nat.zero_add, am_zb0, am_zb1, h58, k1, am_i_s]
    rw [k64]
    refine Wp_r ⟨_, rfl, rfl, fun q k h => ?_, ?_, fun k hk e he => ?_⟩
    · rw [am_up_o (by omega), am_up_o (by omega), am_up_o (by omega), am_up_o (by omega)]
    · rw [am_up_o (by omega), am_up_o (by omega), am_up_o (by omega), am_up_e]
      congr 1
      simp
      omega
    · have m2 : min 40 (L ++ [(h, b, w)]).length = L.length + 1 := by simp; omega
      have m3 : (L ++ [(h, b, w)]).length = L.length + 1 := by simp
      rw [m2] at hk
      rw [m2, m3, Nat.sub_self, Nat.zero_add] at he
      by_cases c : k = L.length
      · subst c
        rw [List.getElem?_append_right (Nat.le_refl _), Nat.sub_self] at he
        have he' : (h, b, w) = e := by injection he
        subst he'
        refine ⟨?_, ?_, ?_⟩
        · rw [show 68 + 3 * L.length = 65 + 3 * (L.length + 1) by omega, am_up_o (by omega), am_up_o (by omega), am_up_e]
        · rw [show 69 + 3 * L.length = 66 + 3 * (L.length + 1) by omega, am_up_o (by omega), am_up_e]
        · rw [show 70 + 3 * L.length = 67 + 3 * (L.length + 1) by omega, am_up_e]
      · rw [List.getElem?_append_left (by omega)] at he
        have := k2 k (by omega) e (by rw [Nat.sub_self, Nat.zero_add]; exact he)
        refine ⟨?_, ?_, ?_⟩
        · rw [am_up_o (by omega), am_up_o (by omega), am_up_o (by omega), am_up_o (by omega)]; exact this.1
        · rw [am_up_o (by omega), am_up_o (by omega), am_up_o (by omega), am_up_o (by omega)]; exact this.2.1
        · rw [am_up_o (by omega), am_up_o (by omega), am_up_o (by omega), am_up_o (by omega)]; exact this.2.2
  · have m1 : min 40 L.length = 40 := by omega
    rw [m1] at k1 k2
    obtain ⟨I1, g1, g2, g3⟩ := m_shift (d := d) (J := J) (R := R) (x := am_i b) (y := am_i w) hm 117 68 I (by omega) (by omega)
    have g1' : am_E (d + 1) 209 23 [(0, .ref 64), (1, .int (am_i b)), (2, .int (am_i w)), (3, .int (am_i 68))] [] (I, J, R, 138) = am_E (d + 1) 209 64 [(0, .ref 64), (1, .int (am_i b)), (2, .int (am_i w))] [] (I1, J, R, 138) := g1
    have k1' : I 103 67 = am_i 40 := k1
    have k64 := m_kept64 (d := d) (J := J) (I := I1) (h := h) (x := 40) (b := b) (w := w) hm (by rw [g2 _ _ (by omega)]; exact h0) (by rw [g2 _ _ (by omega)]; exact k1) (by omega) (by omega)
    simp (disch := first | assumption | omega) only [rM hm, ly_csm, ly_cam, ly_cf, ly_kd, ly_ln, ↓Bool.cond_decide, cond_true, cond_false, ↓bI_p, ↓bV_p, ↓bL_p, bIJ_s, bVJ_s, bLJ_s, ↓am_let_s, Nat.blt, Nat.ble, Bool.and_true, Bool.true_and, Bool.and_self, Int.cast_ofNat_Int, am_i_add, am_i_sub, am_i_mul, am_ok_i, am_i_cl, n_lt, n_le, n_eq, n_lt0, n_le0, n_0lt, n_0le, n_eq0, ne_eq, ↓reduceIte, not_true_eq_false, not_false_eq_true, and_true, true_and, and_false, false_and, eq_T, eq_F, lt_T, lt_F, le_T, le_F, qn_T, qn_F, and_F, b01_T, b01_F, e_isIn, Int32.toInt_toInt64, am_i_toInt, am_l_toInt, Int.toNat_natCast, Int.reduceToNat, Int.reduceAdd, Int.reduceSub, Int.reduceMul, Int.reduceNeg, Nat.reduceAdd, Nat.reduceMul, Nat.add_zero, Nat.mul_zero, Nat.zero_add, am_zb0, am_zb1, h58, k1']
    rw [g1', k64]
    refine Wp_r ⟨_, rfl, rfl, fun q k h => ?_, ?_, fun k hk e he => ?_⟩
    · rw [am_up_o (by omega), am_up_o (by omega), am_up_o (by omega), g2 q k (by omega)]
    · rw [am_up_o (by omega), am_up_o (by omega), am_up_o (by omega), g2 _ _ (by omega), k1]
      congr 1
      simp
      omega
    · have m2 : min 40 (L ++ [(h, b, w)]).length = 40 := by simp; omega
      have m3 : (L ++ [(h, b, w)]).length = L.length + 1 := by simp
      rw [m2] at hk
      rw [m2, m3] at he
      by_cases c : k = 39
      · subst c
        rw [show L.length + 1 - 40 + 39 = L.length by omega, List.getElem?_append_right (Nat.le_refl _), Nat.sub_self] at he
        have he' : (h, b, w) = e := by injection he
        subst he'
        refine ⟨?_, ?_, am_up_e⟩
        · rw [am_up_o (by omega), am_up_o (by omega), am_up_e]
        · rw [am_up_o (by omega), am_up_e]
      · rw [List.getElem?_append_left (by omega)] at he
        have := k2 (k + 1) (by omega) e (by rw [show L.length - 40 + (k + 1) = L.length + 1 - 40 + k by omega]; exact he)
        refine ⟨?_, ?_, ?_⟩
        · rw [am_up_o (by omega), am_up_o (by omega), am_up_o (by omega), g3 _ (by omega) (by omega)]; exact this.1
        · rw [am_up_o (by omega), am_up_o (by omega), am_up_o (by omega), g3 _ (by omega) (by omega)]; exact this.2.1
        · rw [am_up_o (by omega), am_up_o (by omega), am_up_o (by omega), g3 _ (by omega) (by omega)]; exact this.2.2
end KEPT
