/-! ===== which word of a formula is here ===== -/
def qwI (w : Int) : Int := if w = 14 then 0 else if w = 3 then 1 else if w = 4 then 2 else if w = 15 then 3 else if w = 12 then 4 else if w = 16 then 5 else if w = 17 then 6 else if w = 18 then 7 else if w = 19 then 8 else if w = 9 then 9 else if w = 5 then 10 else -1
section MW
variable {d : Nat} {J : tJ} {R : tR} {T : Nat → Nat} {n p : Nat} {I : tI}
theorem ih_a (hm : st_Rm R) (hT : txM T n I) (hp : p ≤ n) (hR : mrX T n p I) {q w : Nat} (hq : isQ q = true) (hw : wdQ q = w) : (∀ d, am_E (d + 2) 171 0 [(0, .ref 64), (1, .ref q)] [] (I, J, R, 138) = some (some (.int (b01 (tW T n p = (w : Int)))), (atP T n p I, J, R, 138))) ∧ ∀ d, am_E (d + 2) 171 0 [(0, .ref 64), (1, .ref q)] [] (atP T n p I, J, R, 138) = some (some (.int (b01 (tW T n p = (w : Int)))), (atP T n p I, J, R, 138)) := by
  subst hw
  refine ⟨fun d => m_isHere hm hT hp hR hq, fun d => ?_⟩
  have := m_isHere (d := d) (J := J) hm (txM_a (p := p) hT) hp (mrX_a hR hp) hq
  rw [atP_a] at this
  exact this
theorem e_wordQ (hm : st_Rm R) (hT : txM T n I) (hp : p ≤ n) (hR : mrX T n p I) : am_E (d + 3) 266 0 [(0, .ref 64)] [] (I, J, R, 138) = some (some (.int (am_i (qwI (tW T n p)))), (atP T n p I, J, R, 138)) := by
  have h0 := (ih_a (J := J) hm hT hp hR (q := 123) (w := 14) (by decide) (by decide)).1
  have h1 := (ih_a (J := J) hm hT hp hR (q := 124) (w := 3) (by decide) (by decide)).2
  have h2 := (ih_a (J := J) hm hT hp hR (q := 125) (w := 4) (by decide) (by decide)).2
  have h3 := (ih_a (J := J) hm hT hp hR (q := 126) (w := 15) (by decide) (by decide)).2
  have h4 := (ih_a (J := J) hm hT hp hR (q := 127) (w := 12) (by decide) (by decide)).2
  have h5 := (ih_a (J := J) hm hT hp hR (q := 128) (w := 16) (by decide) (by decide)).2
  have h6 := (ih_a (J := J) hm hT hp hR (q := 129) (w := 17) (by decide) (by decide)).2
  have h7 := (ih_a (J := J) hm hT hp hR (q := 130) (w := 18) (by decide) (by decide)).2
  have h8 := (ih_a (J := J) hm hT hp hR (q := 131) (w := 19) (by decide) (by decide)).2
  have h9 := (ih_a (J := J) hm hT hp hR (q := 132) (w := 9) (by decide) (by decide)).2
  have h10 := (ih_a (J := J) hm hT hp hR (q := 133) (w := 5) (by decide) (by decide)).2
  have wb := tW_b (T := T) (n := n) (p := p)
  have c10 : (am_i 1 = 0) = False := eq_false am1z
  have c00 : (am_i 0 = 0) = True := eq_true am0z
  generalize tW T n p = w at *
  rw [sg_X12_qWordHere_0]
  have hW : w = 14 ∨ w = 3 ∨ w = 4 ∨ w = 15 ∨ w = 12 ∨ w = 16 ∨ w = 17 ∨ w = 18 ∨ w = 19 ∨ w = 9 ∨ w = 5 ∨ (w ≠ 14 ∧ w ≠ 3 ∧ w ≠ 4 ∧ w ≠ 15 ∧ w ≠ 12 ∧ w ≠ 16 ∧ w ≠ 17 ∧ w ≠ 18 ∧ w ≠ 19 ∧ w ≠ 9 ∧ w ≠ 5) := by omega
  rcases hW with rfl | rfl | rfl | rfl | rfl | rfl | rfl | rfl | rfl | rfl | rfl | ⟨k0, k1, k2, k3, k4, k5, k6, k7, k8, k9, k10⟩
  · rw [b01_t (show (14 : Int) = ((14 : Nat) : Int) from rfl)] at h0
    simp (disch := first | assumption | omega) only [rM hm, ly_csm, ly_cam, ly_cf, ly_kd, ly_ln, ↓Bool.cond_decide, cond_true, cond_false, ↓bI_p, ↓bV_p, ↓bL_p, bIJ_s, bVJ_s, bLJ_s, ↓am_let_s, Nat.blt, Nat.ble, Bool.and_true, Bool.true_and, Bool.and_self, Int.cast_ofNat_Int, h0, c10, c00, ↓reduceIte]
    rfl
  · rw [b01_f (by decide)] at h0
    rw [b01_t (show (3 : Int) = ((3 : Nat) : Int) from rfl)] at h1
    simp (disch := first | assumption | omega) only [rM hm, ly_csm, ly_cam, ly_cf, ly_kd, ly_ln, ↓Bool.cond_decide, cond_true, cond_false, ↓bI_p, ↓bV_p, ↓bL_p, bIJ_s, bVJ_s, bLJ_s, ↓am_let_s, Nat.blt, Nat.ble, Bool.and_true, Bool.true_and, Bool.and_self, Int.cast_ofNat_Int, h0, h1, c10, c00, ↓reduceIte]
    rfl
  · rw [b01_f (by decide)] at h0 h1
    rw [b01_t (show (4 : Int) = ((4 : Nat) : Int) from rfl)] at h2
    simp (disch := first | assumption | omega) only [rM hm, ly_csm, ly_cam, ly_cf, ly_kd, ly_ln, ↓Bool.cond_decide, cond_true, cond_false, ↓bI_p, ↓bV_p, ↓bL_p, bIJ_s, bVJ_s, bLJ_s, ↓am_let_s, Nat.blt, Nat.ble, Bool.and_true, Bool.true_and, Bool.and_self, Int.cast_ofNat_Int, h0, h1, h2, c10, c00, ↓reduceIte]
    rfl
  · rw [b01_f (by decide)] at h0 h1 h2
    rw [b01_t (show (15 : Int) = ((15 : Nat) : Int) from rfl)] at h3
    simp (disch := first | assumption | omega) only [rM hm, ly_csm, ly_cam, ly_cf, ly_kd, ly_ln, ↓Bool.cond_decide, cond_true, cond_false, ↓bI_p, ↓bV_p, ↓bL_p, bIJ_s, bVJ_s, bLJ_s, ↓am_let_s, Nat.blt, Nat.ble, Bool.and_true, Bool.true_and, Bool.and_self, Int.cast_ofNat_Int, h0, h1, h2, h3, c10, c00, ↓reduceIte]
    rfl
  · rw [b01_f (by decide)] at h0 h1 h2 h3
    rw [b01_t (show (12 : Int) = ((12 : Nat) : Int) from rfl)] at h4
    simp (disch := first | assumption | omega) only [rM hm, ly_csm, ly_cam, ly_cf, ly_kd, ly_ln, ↓Bool.cond_decide, cond_true, cond_false, ↓bI_p, ↓bV_p, ↓bL_p, bIJ_s, bVJ_s, bLJ_s, ↓am_let_s, Nat.blt, Nat.ble, Bool.and_true, Bool.true_and, Bool.and_self, Int.cast_ofNat_Int, h0, h1, h2, h3, h4, c10, c00, ↓reduceIte]
    rfl
  · rw [b01_f (by decide)] at h0 h1 h2 h3 h4
    rw [b01_t (show (16 : Int) = ((16 : Nat) : Int) from rfl)] at h5
    simp (disch := first | assumption | omega) only [rM hm, ly_csm, ly_cam, ly_cf, ly_kd, ly_ln, ↓Bool.cond_decide, cond_true, cond_false, ↓bI_p, ↓bV_p, ↓bL_p, bIJ_s, bVJ_s, bLJ_s, ↓am_let_s, Nat.blt, Nat.ble, Bool.and_true, Bool.true_and, Bool.and_self, Int.cast_ofNat_Int, h0, h1, h2, h3, h4, h5, c10, c00, ↓reduceIte]
    rfl
  · rw [b01_f (by decide)] at h0 h1 h2 h3 h4 h5
    rw [b01_t (show (17 : Int) = ((17 : Nat) : Int) from rfl)] at h6
    simp (disch := first | assumption | omega) only [rM hm, ly_csm, ly_cam, ly_cf, ly_kd, ly_ln, ↓Bool.cond_decide, cond_true, cond_false, ↓bI_p, ↓bV_p, ↓bL_p, bIJ_s, bVJ_s, bLJ_s, ↓am_let_s, Nat.blt, Nat.ble, Bool.and_true, Bool.true_and, Bool.and_self, Int.cast_ofNat_Int, h0, h1, h2, h3, h4, h5, h6, c10, c00, ↓reduceIte]
    rfl
  · rw [b01_f (by decide)] at h0 h1 h2 h3 h4 h5 h6
    rw [b01_t (show (18 : Int) = ((18 : Nat) : Int) from rfl)] at h7
    simp (disch := first | assumption | omega) only [rM hm, ly_csm, ly_cam, ly_cf, ly_kd, ly_ln, ↓Bool.cond_decide, cond_true, cond_false, ↓bI_p, ↓bV_p, ↓bL_p, bIJ_s, bVJ_s, bLJ_s, ↓am_let_s, Nat.blt, Nat.ble, Bool.and_true, Bool.true_and, Bool.and_self, Int.cast_ofNat_Int, h0, h1, h2, h3, h4, h5, h6, h7, c10, c00, ↓reduceIte]
    rfl
  · rw [b01_f (by decide)] at h0 h1 h2 h3 h4 h5 h6 h7
    rw [b01_t (show (19 : Int) = ((19 : Nat) : Int) from rfl)] at h8
    simp (disch := first | assumption | omega) only [rM hm, ly_csm, ly_cam, ly_cf, ly_kd, ly_ln, ↓Bool.cond_decide, cond_true, cond_false, ↓bI_p, ↓bV_p, ↓bL_p, bIJ_s, bVJ_s, bLJ_s, ↓am_let_s, Nat.blt, Nat.ble, Bool.and_true, Bool.true_and, Bool.and_self, Int.cast_ofNat_Int, h0, h1, h2, h3, h4, h5, h6, h7, h8, c10, c00, ↓reduceIte]
    rfl
  · rw [b01_f (by decide)] at h0 h1 h2 h3 h4 h5 h6 h7 h8
    rw [b01_t (show (9 : Int) = ((9 : Nat) : Int) from rfl)] at h9
    simp (disch := first | assumption | omega) only [rM hm, ly_csm, ly_cam, ly_cf, ly_kd, ly_ln, ↓Bool.cond_decide, cond_true, cond_false, ↓bI_p, ↓bV_p, ↓bL_p, bIJ_s, bVJ_s, bLJ_s, ↓am_let_s, Nat.blt, Nat.ble, Bool.and_true, Bool.true_and, Bool.and_self, Int.cast_ofNat_Int, h0, h1, h2, h3, h4, h5, h6, h7, h8, h9, c10, c00, ↓reduceIte]
    rfl
  · rw [b01_f (by decide)] at h0 h1 h2 h3 h4 h5 h6 h7 h8 h9
    rw [b01_t (show (5 : Int) = ((5 : Nat) : Int) from rfl)] at h10
    simp (disch := first | assumption | omega) only [rM hm, ly_csm, ly_cam, ly_cf, ly_kd, ly_ln, ↓Bool.cond_decide, cond_true, cond_false, ↓bI_p, ↓bV_p, ↓bL_p, bIJ_s, bVJ_s, bLJ_s, ↓am_let_s, Nat.blt, Nat.ble, Bool.and_true, Bool.true_and, Bool.and_self, Int.cast_ofNat_Int, h0, h1, h2, h3, h4, h5, h6, h7, h8, h9, h10, c10, c00, ↓reduceIte]
    rfl
  · have e : qwI w = -1 := by unfold qwI; rw [if_neg k0, if_neg k1, if_neg k2, if_neg k3, if_neg k4, if_neg k5, if_neg k6, if_neg k7, if_neg k8, if_neg k9, if_neg k10]
    rw [e]
    rw [b01_f (by omega)] at h0 h1 h2 h3 h4 h5 h6 h7 h8 h9 h10
    simp (disch := first | assumption | omega) only [rM hm, ly_csm, ly_cam, ly_cf, ly_kd, ly_ln, ↓Bool.cond_decide, cond_true, cond_false, ↓bI_p, ↓bV_p, ↓bL_p, bIJ_s, bVJ_s, bLJ_s, ↓am_let_s, Nat.blt, Nat.ble, Bool.and_true, Bool.true_and, Bool.and_self, Int.cast_ofNat_Int, h0, h1, h2, h3, h4, h5, h6, h7, h8, h9, h10, c10, c00, ↓reduceIte]
theorem qwI_b (w : Int) : -1 ≤ qwI w ∧ qwI w ≤ 10 := by
  unfold qwI
  repeat' split
  all_goals omega
theorem e_allow (hm : st_Rm R) {so : Nat} {k : Int} (h : I 64 51 = am_i (tkS so)) (k1 : -1 ≤ k) (k2 : k ≤ 10) : am_E (d + 1) 179 0 [(0, .ref 64), (1, .int (am_i k))] [] (I, J, R, 138) = some (some (.int (b01 (if so = 3 then k ≠ 5 else if so = 2 then k < 6 else k < 5))), (I, J, R, 138)) := by
  unfold tkS at h
  rw [sg_X12_isAllowed_0]
  by_cases q3 : so = 3
  · simp only [if_pos q3] at h ⊢
    have h' : I 64 51 = am_i 2 := h
    by_cases q : k = 5
    · rw [b01_f (fun e => e q)]
      simp (disch := first | assumption | omega) only [rM hm, ly_csm, ly_cam, ly_cf, ly_kd, ly_ln, ↓Bool.cond_decide, cond_true, cond_false, ↓bI_p, ↓bV_p, ↓bL_p, bIJ_s, bVJ_s, bLJ_s, ↓am_let_s, Nat.blt, Nat.ble, Bool.and_true, Bool.true_and, Bool.and_self, Int.cast_ofNat_Int, am_i_add, am_i_sub, am_i_mul, am_ok_i, am_i_cl, n_lt, n_le, n_eq, n_lt0, n_le0, n_0lt, n_0le, n_eq0, ne_eq, ↓reduceIte, not_true_eq_false, not_false_eq_true, and_true, true_and, and_false, false_and, eq_T, eq_F, lt_T, lt_F, le_T, le_F, qn_T, qn_F, and_F, b01_T, b01_F, e_isIn, Int32.toInt_toInt64, am_i_toInt, am_l_toInt, Int.toNat_natCast, Int.reduceToNat, Int.reduceAdd, Int.reduceSub, Int.reduceMul, Int.reduceNeg, Nat.reduceAdd, Nat.reduceMul, Nat.add_zero, Nat.mul_zero, Nat.zero_add, am_zb0, am_zb1, h']
    · rw [b01_t q]
      simp (disch := first | assumption | omega) only [rM hm, ly_csm, ly_cam, ly_cf, ly_kd, ly_ln, ↓Bool.cond_decide, cond_true, cond_false, ↓bI_p, ↓bV_p, ↓bL_p, bIJ_s, bVJ_s, bLJ_s, ↓am_let_s, Nat.blt, Nat.ble, Bool.and_true, Bool.true_and, Bool.and_self, Int.cast_ofNat_Int, am_i_add, am_i_sub, am_i_mul, am_ok_i, am_i_cl, n_lt, n_le, n_eq, n_lt0, n_le0, n_0lt, n_0le, n_eq0, ne_eq, ↓reduceIte, not_true_eq_false, not_false_eq_true, and_true, true_and, and_false, false_and, eq_T, eq_F, lt_T, lt_F, le_T, le_F, qn_T, qn_F, and_F, b01_T, b01_F, e_isIn, Int32.toInt_toInt64, am_i_toInt, am_l_toInt, Int.toNat_natCast, Int.reduceToNat, Int.reduceAdd, Int.reduceSub, Int.reduceMul, Int.reduceNeg, Nat.reduceAdd, Nat.reduceMul, Nat.add_zero, Nat.mul_zero, Nat.zero_add, am_zb0, am_zb1, h']
  · simp only [if_neg q3] at h ⊢
    by_cases q2 : so = 2
    · simp only [if_pos q2] at h ⊢
      have h' : I 64 51 = am_i 1 := h
      by_cases q : k < 6
      · rw [b01_t q]
        simp (disch := first | assumption | omega) only [rM hm, ly_csm, ly_cam, ly_cf, ly_kd, ly_ln, ↓Bool.cond_decide, cond_true, cond_false, ↓bI_p, ↓bV_p, ↓bL_p, bIJ_s, bVJ_s, bLJ_s, ↓am_let_s, Nat.blt, Nat.ble, Bool.and_true, Bool.true_and, Bool.and_self, Int.cast_ofNat_Int, am_i_add, am_i_sub, am_i_mul, am_ok_i, am_i_cl, n_lt, n_le, n_eq, n_lt0, n_le0, n_0lt, n_0le, n_eq0, ne_eq, ↓reduceIte, not_true_eq_false, not_false_eq_true, and_true, true_and, and_false, false_and, eq_T, eq_F, lt_T, lt_F, le_T, le_F, qn_T, qn_F, and_F, b01_T, b01_F, e_isIn, Int32.toInt_toInt64, am_i_toInt, am_l_toInt, Int.toNat_natCast, Int.reduceToNat, Int.reduceAdd, Int.reduceSub, Int.reduceMul, Int.reduceNeg, Nat.reduceAdd, Nat.reduceMul, Nat.add_zero, Nat.mul_zero, Nat.zero_add, am_zb0, am_zb1, h']
      · rw [b01_f q]
        simp (disch := first | assumption | omega) only [rM hm, ly_csm, ly_cam, ly_cf, ly_kd, ly_ln, ↓Bool.cond_decide, cond_true, cond_false, ↓bI_p, ↓bV_p, ↓bL_p, bIJ_s, bVJ_s, bLJ_s, ↓am_let_s, Nat.blt, Nat.ble, Bool.and_true, Bool.true_and, Bool.and_self, Int.cast_ofNat_Int, am_i_add, am_i_sub, am_i_mul, am_ok_i, am_i_cl, n_lt, n_le, n_eq, n_lt0, n_le0, n_0lt, n_0le, n_eq0, ne_eq, ↓reduceIte, not_true_eq_false, not_false_eq_true, and_true, true_and, and_false, false_and, eq_T, eq_F, lt_T, lt_F, le_T, le_F, qn_T, qn_F, and_F, b01_T, b01_F, e_isIn, Int32.toInt_toInt64, am_i_toInt, am_l_toInt, Int.toNat_natCast, Int.reduceToNat, Int.reduceAdd, Int.reduceSub, Int.reduceMul, Int.reduceNeg, Nat.reduceAdd, Nat.reduceMul, Nat.add_zero, Nat.mul_zero, Nat.zero_add, am_zb0, am_zb1, h']
    · simp only [if_neg q2] at h ⊢
      have h' : I 64 51 = am_i 0 := h
      by_cases q : k < 5
      · rw [b01_t q]
        simp (disch := first | assumption | omega) only [rM hm, ly_csm, ly_cam, ly_cf, ly_kd, ly_ln, ↓Bool.cond_decide, cond_true, cond_false, ↓bI_p, ↓bV_p, ↓bL_p, bIJ_s, bVJ_s, bLJ_s, ↓am_let_s, Nat.blt, Nat.ble, Bool.and_true, Bool.true_and, Bool.and_self, Int.cast_ofNat_Int, am_i_add, am_i_sub, am_i_mul, am_ok_i, am_i_cl, n_lt, n_le, n_eq, n_lt0, n_le0, n_0lt, n_0le, n_eq0, ne_eq, ↓reduceIte, not_true_eq_false, not_false_eq_true, and_true, true_and, and_false, false_and, eq_T, eq_F, lt_T, lt_F, le_T, le_F, qn_T, qn_F, and_F, b01_T, b01_F, e_isIn, Int32.toInt_toInt64, am_i_toInt, am_l_toInt, Int.toNat_natCast, Int.reduceToNat, Int.reduceAdd, Int.reduceSub, Int.reduceMul, Int.reduceNeg, Nat.reduceAdd, Nat.reduceMul, Nat.add_zero, Nat.mul_zero, Nat.zero_add, am_zb0, am_zb1, h']
      · rw [b01_f q]
        simp (disch := first | assumption | omega) only [rM hm, ly_csm, ly_cam, ly_cf, ly_kd, ly_ln, ↓Bool.cond_decide, cond_true, cond_false, ↓bI_p, ↓bV_p, ↓bL_p, bIJ_s, bVJ_s, bLJ_s, ↓am_let_s, Nat.blt, Nat.ble, Bool.and_true, Bool.true_and, Bool.and_self, Int.cast_ofNat_Int, am_i_add, am_i_sub, am_i_mul, am_ok_i, am_i_cl, n_lt, n_le, n_eq, n_lt0, n_le0, n_0lt, n_0le, n_eq0, ne_eq, ↓reduceIte, not_true_eq_false, not_false_eq_true, and_true, true_and, and_false, false_and, eq_T, eq_F, lt_T, lt_F, le_T, le_F, qn_T, qn_F, and_F, b01_T, b01_F, e_isIn, Int32.toInt_toInt64, am_i_toInt, am_l_toInt, Int.toNat_natCast, Int.reduceToNat, Int.reduceAdd, Int.reduceSub, Int.reduceMul, Int.reduceNeg, Nat.reduceAdd, Nat.reduceMul, Nat.add_zero, Nat.mul_zero, Nat.zero_add, am_zb0, am_zb1, h']
/-- which word with a part behind it: carry 9, score 10; which word that tells a number -/
def ofI (so : Nat) (w : Int) : Int := if so = 3 ∧ w = 9 then 9 else if so = 3 ∧ w = 5 then 10 else -1
def paI (so : Nat) (w : Int) : Int := if vlB so w = true then qwI w else -1
theorem e_wordOf (hm : st_Rm R) (hT : txM T n I) (hp : p ≤ n) (hR : mrX T n p I) {so : Nat} (h51 : I 64 51 = am_i (tkS so)) : am_E (d + 4) 267 0 [(0, .ref 64), (1, .int (am_i 9)), (2, .int (am_i 11))] [] (I, J, R, 138) = some (some (.int (am_i (ofI so (tW T n p)))), (atP T n p I, J, R, 138)) ∧ am_E (d + 4) 267 0 [(0, .ref 64), (1, .int (am_i 0)), (2, .int (am_i 9))] [] (I, J, R, 138) = some (some (.int (am_i (paI so (tW T n p)))), (atP T n p I, J, R, 138)) := by
  have wq := fun d => e_wordQ (d := d) (J := J) hm hT hp hR
  have wb := tW_b (T := T) (n := n) (p := p)
  have qb := qwI_b (tW T n p)
  have al := fun d => e_allow (d := d) (J := J) (R := R) (I := atP T n p I) (so := so) (k := qwI (tW T n p)) hm (by rw [atP_o (by omega)]; exact h51) qb.1 qb.2
  have c10 : (am_i 1 = 0) = False := eq_false am1z
  have c00 : (am_i 0 = 0) = True := eq_true am0z
  have key : ∀ w : Int, -1 ≤ w → w < 32 → (qwI w = 9 ↔ w = 9) ∧ (qwI w = 10 ↔ w = 5) ∧ (vlB so w = true ↔ (0 ≤ qwI w ∧ qwI w < 9 ∧ (if so = 3 then qwI w ≠ 5 else if so = 2 then qwI w < 6 else qwI w < 5))) := by
    intro w w1 w2
    unfold vlB
    rw [decide_eq_true_eq]
    have hW : w = 14 ∨ w = 3 ∨ w = 4 ∨ w = 15 ∨ w = 12 ∨ w = 16 ∨ w = 17 ∨ w = 18 ∨ w = 19 ∨ w = 9 ∨ w = 5 ∨ (w ≠ 14 ∧ w ≠ 3 ∧ w ≠ 4 ∧ w ≠ 15 ∧ w ≠ 12 ∧ w ≠ 16 ∧ w ≠ 17 ∧ w ≠ 18 ∧ w ≠ 19 ∧ w ≠ 9 ∧ w ≠ 5) := by omega
    rcases hW with rfl | rfl | rfl | rfl | rfl | rfl | rfl | rfl | rfl | rfl | rfl | ⟨k0, k1, k2, k3, k4, k5, k6, k7, k8, k9, k10⟩
    case inr.inr.inr.inr.inr.inr.inr.inr.inr.inr.inr =>
      have e : qwI w = -1 := by unfold qwI; rw [if_neg k0, if_neg k1, if_neg k2, if_neg k3, if_neg k4, if_neg k5, if_neg k6, if_neg k7, if_neg k8, if_neg k9, if_neg k10]
      rw [e]
      omega
    all_goals
      simp only [show qwI 14 = 0 from rfl, show qwI 3 = 1 from rfl, show qwI 4 = 2 from rfl, show qwI 15 = 3 from rfl, show qwI 12 = 4 from rfl, show qwI 16 = 5 from rfl, show qwI 17 = 6 from rfl, show qwI 18 = 7 from rfl, show qwI 19 = 8 from rfl, show qwI 9 = 9 from rfl, show qwI 5 = 10 from rfl]
      refine ⟨by decide, by decide, ?_⟩
      by_cases q3 : so = 3
      · subst q3; decide
      · by_cases q2 : so = 2
        · subst q2; decide
        · simp only [if_neg q2, if_neg q3, q2, q3, false_and, or_false]; decide
  obtain ⟨k9, k10, kv⟩ := key (tW T n p) wb.1 wb.2
  constructor
  · rw [sg_X12_qWordOf_0]
    by_cases q3 : so = 3
    · simp only [if_pos q3] at al
      by_cases q9 : tW T n p = 9
      · have e9 := k9.mpr q9
        have eo : ofI so (tW T n p) = 9 := if_pos ⟨q3, q9⟩
        rw [e9] at wq al
        rw [b01_t (by omega)] at al
        rw [eo]
        simp (disch := first | assumption | omega) only [rM hm, ly_csm, ly_cam, ly_cf, ly_kd, ly_ln, ↓Bool.cond_decide, cond_true, cond_false, ↓bI_p, ↓bV_p, ↓bL_p, bIJ_s, bVJ_s, bLJ_s, ↓am_let_s, Nat.blt, Nat.ble, Bool.and_true, Bool.true_and, Bool.and_self, Int.cast_ofNat_Int, am_i_add, am_i_sub, am_i_mul, am_ok_i, am_i_cl, n_lt, n_le, n_eq, n_lt0, n_le0, n_0lt, n_0le, n_eq0, ne_eq, ↓reduceIte, not_true_eq_false, not_false_eq_true, and_true, true_and, and_false, false_and, eq_T, eq_F, lt_T, lt_F, le_T, le_F, qn_T, qn_F, and_F, b01_T, b01_F, e_isIn, Int32.toInt_toInt64, am_i_toInt, am_l_toInt, Int.toNat_natCast, Int.reduceToNat, Int.reduceAdd, Int.reduceSub, Int.reduceMul, Int.reduceNeg, Nat.reduceAdd, Nat.reduceMul, Nat.add_zero, Nat.mul_zero, Nat.zero_add, am_zb0, am_zb1, wq, al]
      · by_cases q5 : tW T n p = 5
        · have e10 := k10.mpr q5
          have eo : ofI so (tW T n p) = 10 := by unfold ofI; rw [if_neg (fun e => q9 e.2), if_pos ⟨q3, q5⟩]
          rw [e10] at wq al
          rw [b01_t (by omega)] at al
          rw [eo]
          simp (disch := first | assumption | omega) only [rM hm, ly_csm, ly_cam, ly_cf, ly_kd, ly_ln, ↓Bool.cond_decide, cond_true, cond_false, ↓bI_p, ↓bV_p, ↓bL_p, bIJ_s, bVJ_s, bLJ_s, ↓am_let_s, Nat.blt, Nat.ble, Bool.and_true, Bool.true_and, Bool.and_self, Int.cast_ofNat_Int, am_i_add, am_i_sub, am_i_mul, am_ok_i, am_i_cl, n_lt, n_le, n_eq, n_lt0, n_le0, n_0lt, n_0le, n_eq0, ne_eq, ↓reduceIte, not_true_eq_false, not_false_eq_true, and_true, true_and, and_false, false_and, eq_T, eq_F, lt_T, lt_F, le_T, le_F, qn_T, qn_F, and_F, b01_T, b01_F, e_isIn, Int32.toInt_toInt64, am_i_toInt, am_l_toInt, Int.toNat_natCast, Int.reduceToNat, Int.reduceAdd, Int.reduceSub, Int.reduceMul, Int.reduceNeg, Nat.reduceAdd, Nat.reduceMul, Nat.add_zero, Nat.mul_zero, Nat.zero_add, am_zb0, am_zb1, wq, al]
        · have n9 : qwI (tW T n p) < 9 := by
            have : qwI (tW T n p) ≠ 9 := fun e => q9 (k9.mp e)
            have : qwI (tW T n p) ≠ 10 := fun e => q5 (k10.mp e)
            omega
          have eo : ofI so (tW T n p) = -1 := by unfold ofI; rw [if_neg (fun e => q9 e.2), if_neg (fun e => q5 e.2)]
          rw [eo]
          simp (disch := first | assumption | omega) only [rM hm, ly_csm, ly_cam, ly_cf, ly_kd, ly_ln, ↓Bool.cond_decide, cond_true, cond_false, ↓bI_p, ↓bV_p, ↓bL_p, bIJ_s, bVJ_s, bLJ_s, ↓am_let_s, Nat.blt, Nat.ble, Bool.and_true, Bool.true_and, Bool.and_self, Int.cast_ofNat_Int, am_i_add, am_i_sub, am_i_mul, am_ok_i, am_i_cl, n_lt, n_le, n_eq, n_lt0, n_le0, n_0lt, n_0le, n_eq0, ne_eq, ↓reduceIte, not_true_eq_false, not_false_eq_true, and_true, true_and, and_false, false_and, eq_T, eq_F, lt_T, lt_F, le_T, le_F, qn_T, qn_F, and_F, b01_T, b01_F, e_isIn, Int32.toInt_toInt64, am_i_toInt, am_l_toInt, Int.toNat_natCast, Int.reduceToNat, Int.reduceAdd, Int.reduceSub, Int.reduceMul, Int.reduceNeg, Nat.reduceAdd, Nat.reduceMul, Nat.add_zero, Nat.mul_zero, Nat.zero_add, am_zb0, am_zb1, wq, sg_X12_qWordOf_27]
    · have eo : ofI so (tW T n p) = -1 := by unfold ofI; rw [if_neg (fun e => q3 e.1), if_neg (fun e => q3 e.1)]
      rw [eo]
      by_cases n9 : qwI (tW T n p) < 9
      · simp (disch := first | assumption | omega) only [rM hm, ly_csm, ly_cam, ly_cf, ly_kd, ly_ln, ↓Bool.cond_decide, cond_true, cond_false, ↓bI_p, ↓bV_p, ↓bL_p, bIJ_s, bVJ_s, bLJ_s, ↓am_let_s, Nat.blt, Nat.ble, Bool.and_true, Bool.true_and, Bool.and_self, Int.cast_ofNat_Int, am_i_add, am_i_sub, am_i_mul, am_ok_i, am_i_cl, n_lt, n_le, n_eq, n_lt0, n_le0, n_0lt, n_0le, n_eq0, ne_eq, ↓reduceIte, not_true_eq_false, not_false_eq_true, and_true, true_and, and_false, false_and, eq_T, eq_F, lt_T, lt_F, le_T, le_F, qn_T, qn_F, and_F, b01_T, b01_F, e_isIn, Int32.toInt_toInt64, am_i_toInt, am_l_toInt, Int.toNat_natCast, Int.reduceToNat, Int.reduceAdd, Int.reduceSub, Int.reduceMul, Int.reduceNeg, Nat.reduceAdd, Nat.reduceMul, Nat.add_zero, Nat.mul_zero, Nat.zero_add, am_zb0, am_zb1, wq, sg_X12_qWordOf_27]
      · have nf : ¬ (if so = 3 then qwI (tW T n p) ≠ 5 else if so = 2 then qwI (tW T n p) < 6 else qwI (tW T n p) < 5) := by
          simp only [if_neg q3]
          split <;> omega
        rw [b01_f nf] at al
        simp (disch := first | assumption | omega) only [rM hm, ly_csm, ly_cam, ly_cf, ly_kd, ly_ln, ↓Bool.cond_decide, cond_true, cond_false, ↓bI_p, ↓bV_p, ↓bL_p, bIJ_s, bVJ_s, bLJ_s, ↓am_let_s, Nat.blt, Nat.ble, Bool.and_true, Bool.true_and, Bool.and_self, Int.cast_ofNat_Int, am_i_add, am_i_sub, am_i_mul, am_ok_i, am_i_cl, n_lt, n_le, n_eq, n_lt0, n_le0, n_0lt, n_0le, n_eq0, ne_eq, ↓reduceIte, not_true_eq_false, not_false_eq_true, and_true, true_and, and_false, false_and, eq_T, eq_F, lt_T, lt_F, le_T, le_F, qn_T, qn_F, and_F, b01_T, b01_F, e_isIn, Int32.toInt_toInt64, am_i_toInt, am_l_toInt, Int.toNat_natCast, Int.reduceToNat, Int.reduceAdd, Int.reduceSub, Int.reduceMul, Int.reduceNeg, Nat.reduceAdd, Nat.reduceMul, Nat.add_zero, Nat.mul_zero, Nat.zero_add, am_zb0, am_zb1, wq, al, sg_X12_qWordOf_27]
  · rw [sg_X12_qWordOf_0]
    by_cases v : vlB so (tW T n p) = true
    · obtain ⟨a1, a2, a3⟩ := kv.mp v
      have eo : paI so (tW T n p) = qwI (tW T n p) := if_pos v
      rw [b01_t a3] at al
      rw [eo]
      simp (disch := first | assumption | omega) only [rM hm, ly_csm, ly_cam, ly_cf, ly_kd, ly_ln, ↓Bool.cond_decide, cond_true, cond_false, ↓bI_p, ↓bV_p, ↓bL_p, bIJ_s, bVJ_s, bLJ_s, ↓am_let_s, Nat.blt, Nat.ble, Bool.and_true, Bool.true_and, Bool.and_self, Int.cast_ofNat_Int, am_i_add, am_i_sub, am_i_mul, am_ok_i, am_i_cl, n_lt, n_le, n_eq, n_lt0, n_le0, n_0lt, n_0le, n_eq0, ne_eq, ↓reduceIte, not_true_eq_false, not_false_eq_true, and_true, true_and, and_false, false_and, eq_T, eq_F, lt_T, lt_F, le_T, le_F, qn_T, qn_F, and_F, b01_T, b01_F, e_isIn, Int32.toInt_toInt64, am_i_toInt, am_l_toInt, Int.toNat_natCast, Int.reduceToNat, Int.reduceAdd, Int.reduceSub, Int.reduceMul, Int.reduceNeg, Nat.reduceAdd, Nat.reduceMul, Nat.add_zero, Nat.mul_zero, Nat.zero_add, am_zb0, am_zb1, wq, al]
    · have eo : paI so (tW T n p) = -1 := if_neg v
      rw [eo]
      by_cases n0 : qwI (tW T n p) < 0
      · simp (disch := first | assumption | omega) only [rM hm, ly_csm, ly_cam, ly_cf, ly_kd, ly_ln, ↓Bool.cond_decide, cond_true, cond_false, ↓bI_p, ↓bV_p, ↓bL_p, bIJ_s, bVJ_s, bLJ_s, ↓am_let_s, Nat.blt, Nat.ble, Bool.and_true, Bool.true_and, Bool.and_self, Int.cast_ofNat_Int, am_i_add, am_i_sub, am_i_mul, am_ok_i, am_i_cl, n_lt, n_le, n_eq, n_lt0, n_le0, n_0lt, n_0le, n_eq0, ne_eq, ↓reduceIte, not_true_eq_false, not_false_eq_true, and_true, true_and, and_false, false_and, eq_T, eq_F, lt_T, lt_F, le_T, le_F, qn_T, qn_F, and_F, b01_T, b01_F, e_isIn, Int32.toInt_toInt64, am_i_toInt, am_l_toInt, Int.toNat_natCast, Int.reduceToNat, Int.reduceAdd, Int.reduceSub, Int.reduceMul, Int.reduceNeg, Nat.reduceAdd, Nat.reduceMul, Nat.add_zero, Nat.mul_zero, Nat.zero_add, am_zb0, am_zb1, wq, sg_X12_qWordOf_27]
      · by_cases n9 : 9 ≤ qwI (tW T n p)
        · simp (disch := first | assumption | omega) only [rM hm, ly_csm, ly_cam, ly_cf, ly_kd, ly_ln, ↓Bool.cond_decide, cond_true, cond_false, ↓bI_p, ↓bV_p, ↓bL_p, bIJ_s, bVJ_s, bLJ_s, ↓am_let_s, Nat.blt, Nat.ble, Bool.and_true, Bool.true_and, Bool.and_self, Int.cast_ofNat_Int, am_i_add, am_i_sub, am_i_mul, am_ok_i, am_i_cl, n_lt, n_le, n_eq, n_lt0, n_le0, n_0lt, n_0le, n_eq0, ne_eq, ↓reduceIte, not_true_eq_false, not_false_eq_true, and_true, true_and, and_false, false_and, eq_T, eq_F, lt_T, lt_F, le_T, le_F, qn_T, qn_F, and_F, b01_T, b01_F, e_isIn, Int32.toInt_toInt64, am_i_toInt, am_l_toInt, Int.toNat_natCast, Int.reduceToNat, Int.reduceAdd, Int.reduceSub, Int.reduceMul, Int.reduceNeg, Nat.reduceAdd, Nat.reduceMul, Nat.add_zero, Nat.mul_zero, Nat.zero_add, am_zb0, am_zb1, wq, sg_X12_qWordOf_27]
        · have nf : ¬ (if so = 3 then qwI (tW T n p) ≠ 5 else if so = 2 then qwI (tW T n p) < 6 else qwI (tW T n p) < 5) := fun e => v (kv.mpr ⟨by omega, by omega, e⟩)
          rw [b01_f nf] at al
          simp (disch := first | assumption | omega) only [rM hm, ly_csm, ly_cam, ly_cf, ly_kd, ly_ln, ↓Bool.cond_decide, cond_true, cond_false, ↓bI_p, ↓bV_p, ↓bL_p, bIJ_s, bVJ_s, bLJ_s, ↓am_let_s, Nat.blt, Nat.ble, Bool.and_true, Bool.true_and, Bool.and_self, Int.cast_ofNat_Int, am_i_add, am_i_sub, am_i_mul, am_ok_i, am_i_cl, n_lt, n_le, n_eq, n_lt0, n_le0, n_0lt, n_0le, n_eq0, ne_eq, ↓reduceIte, not_true_eq_false, not_false_eq_true, and_true, true_and, and_false, false_and, eq_T, eq_F, lt_T, lt_F, le_T, le_F, qn_T, qn_F, and_F, b01_T, b01_F, e_isIn, Int32.toInt_toInt64, am_i_toInt, am_l_toInt, Int.toNat_natCast, Int.reduceToNat, Int.reduceAdd, Int.reduceSub, Int.reduceMul, Int.reduceNeg, Nat.reduceAdd, Nat.reduceMul, Nat.add_zero, Nat.mul_zero, Nat.zero_add, am_zb0, am_zb1, wq, al, sg_X12_qWordOf_27]
/-- and is taken -/
theorem e_askW (hm : st_Rm R) (hT : txM T n I) (hp : p ≤ n) (hR : mrX T n p I) {k : Int} (hk : qwI (tW T n p) = k) (k0 : 0 ≤ k) : ∃ I', am_E (d + 5) 268 0 [(0, .ref 64), (1, .int (am_i k))] [] (I, J, R, 138) = some (none, (I', J, R, 138)) ∧ mrX T n (tE T n p) I' ∧ ∀ a j, ¬ mlC a j → I' a j = I a j := by
  have wb := tW_b (T := T) (n := n) (p := p)
  have go : ∀ (q w : Nat), isQ q = true → wdQ q = w → tW T n p = w → ∃ I', am_E (d + 4) 173 0 [(0, .ref 64), (1, .ref q)] [] (I, J, R, 138) = some (none, (I', J, R, 138)) ∧ mrX T n (tE T n p) I' ∧ ∀ a j, ¬ mlC a j → I' a j = I a j := fun q w h1 h2 h3 => by
    obtain ⟨I', a1, a2, a3⟩ := m_asks (d := d) (J := J) hm hT hp hR h1
    refine ⟨I', a1, ?_, a3⟩
    unfold aW at a2
    rw [h2, if_pos h3] at a2
    exact a2.1 rfl
  have hW : (tW T n p = 14 ∧ k = 0) ∨ (tW T n p = 3 ∧ k = 1) ∨ (tW T n p = 4 ∧ k = 2) ∨ (tW T n p = 15 ∧ k = 3) ∨ (tW T n p = 12 ∧ k = 4) ∨ (tW T n p = 16 ∧ k = 5) ∨ (tW T n p = 17 ∧ k = 6) ∨ (tW T n p = 18 ∧ k = 7) ∨ (tW T n p = 19 ∧ k = 8) ∨ (tW T n p = 9 ∧ k = 9) ∨ (tW T n p = 5 ∧ k = 10) := by
    unfold qwI at hk
    repeat' split at hk
    all_goals omega
  rcases hW with ⟨e, rfl⟩ | ⟨e, rfl⟩ | ⟨e, rfl⟩ | ⟨e, rfl⟩ | ⟨e, rfl⟩ | ⟨e, rfl⟩ | ⟨e, rfl⟩ | ⟨e, rfl⟩ | ⟨e, rfl⟩ | ⟨e, rfl⟩ | ⟨e, rfl⟩
  · obtain ⟨I', a1, a2⟩ := go 123 14 (by decide) (by decide) e
    refine ⟨I', ?_, a2⟩
    rw [sg_X12_qAsksWord_0]
    simp (disch := first | assumption | omega) only [rM hm, ly_csm, ly_cam, ly_cf, ly_kd, ly_ln, ↓Bool.cond_decide, cond_true, cond_false, ↓bI_p, ↓bV_p, ↓bL_p, bIJ_s, bVJ_s, bLJ_s, ↓am_let_s, Nat.blt, Nat.ble, Bool.and_true, Bool.true_and, Bool.and_self, Int.cast_ofNat_Int, am_i_add, am_i_sub, am_i_mul, am_ok_i, am_i_cl, n_lt, n_le, n_eq, n_lt0, n_le0, n_0lt, n_0le, n_eq0, ne_eq, ↓reduceIte, not_true_eq_false, not_false_eq_true, and_true, true_and, and_false, false_and, eq_T, eq_F, lt_T, lt_F, le_T, le_F, qn_T, qn_F, and_F, b01_T, b01_F, e_isIn, Int32.toInt_toInt64, am_i_toInt, am_l_toInt, Int.toNat_natCast, Int.reduceToNat, Int.reduceAdd, Int.reduceSub, Int.reduceMul, Int.reduceNeg, Nat.reduceAdd, Nat.reduceMul, Nat.add_zero, Nat.mul_zero, Nat.zero_add, am_zb0, am_zb1, a1, sg_X12_qAsksWord_174]
  · obtain ⟨I', a1, a2⟩ := go 124 3 (by decide) (by decide) e
    refine ⟨I', ?_, a2⟩
    rw [sg_X12_qAsksWord_0]
    simp (disch := first | assumption | omega) only [rM hm, ly_csm, ly_cam, ly_cf, ly_kd, ly_ln, ↓Bool.cond_decide, cond_true, cond_false, ↓bI_p, ↓bV_p, ↓bL_p, bIJ_s, bVJ_s, bLJ_s, ↓am_let_s, Nat.blt, Nat.ble, Bool.and_true, Bool.true_and, Bool.and_self, Int.cast_ofNat_Int, am_i_add, am_i_sub, am_i_mul, am_ok_i, am_i_cl, n_lt, n_le, n_eq, n_lt0, n_le0, n_0lt, n_0le, n_eq0, ne_eq, ↓reduceIte, not_true_eq_false, not_false_eq_true, and_true, true_and, and_false, false_and, eq_T, eq_F, lt_T, lt_F, le_T, le_F, qn_T, qn_F, and_F, b01_T, b01_F, e_isIn, Int32.toInt_toInt64, am_i_toInt, am_l_toInt, Int.toNat_natCast, Int.reduceToNat, Int.reduceAdd, Int.reduceSub, Int.reduceMul, Int.reduceNeg, Nat.reduceAdd, Nat.reduceMul, Nat.add_zero, Nat.mul_zero, Nat.zero_add, am_zb0, am_zb1, a1, sg_X12_qAsksWord_174]
  · obtain ⟨I', a1, a2⟩ := go 125 4 (by decide) (by decide) e
    refine ⟨I', ?_, a2⟩
    rw [sg_X12_qAsksWord_0]
    simp (disch := first | assumption | omega) only [rM hm, ly_csm, ly_cam, ly_cf, ly_kd, ly_ln, ↓Bool.cond_decide, cond_true, cond_false, ↓bI_p, ↓bV_p, ↓bL_p, bIJ_s, bVJ_s, bLJ_s, ↓am_let_s, Nat.blt, Nat.ble, Bool.and_true, Bool.true_and, Bool.and_self, Int.cast_ofNat_Int, am_i_add, am_i_sub, am_i_mul, am_ok_i, am_i_cl, n_lt, n_le, n_eq, n_lt0, n_le0, n_0lt, n_0le, n_eq0, ne_eq, ↓reduceIte, not_true_eq_false, not_false_eq_true, and_true, true_and, and_false, false_and, eq_T, eq_F, lt_T, lt_F, le_T, le_F, qn_T, qn_F, and_F, b01_T, b01_F, e_isIn, Int32.toInt_toInt64, am_i_toInt, am_l_toInt, Int.toNat_natCast, Int.reduceToNat, Int.reduceAdd, Int.reduceSub, Int.reduceMul, Int.reduceNeg, Nat.reduceAdd, Nat.reduceMul, Nat.add_zero, Nat.mul_zero, Nat.zero_add, am_zb0, am_zb1, a1, sg_X12_qAsksWord_174]
  · obtain ⟨I', a1, a2⟩ := go 126 15 (by decide) (by decide) e
    refine ⟨I', ?_, a2⟩
    rw [sg_X12_qAsksWord_0]
    simp (disch := first | assumption | omega) only [rM hm, ly_csm, ly_cam, ly_cf, ly_kd, ly_ln, ↓Bool.cond_decide, cond_true, cond_false, ↓bI_p, ↓bV_p, ↓bL_p, bIJ_s, bVJ_s, bLJ_s, ↓am_let_s, Nat.blt, Nat.ble, Bool.and_true, Bool.true_and, Bool.and_self, Int.cast_ofNat_Int, am_i_add, am_i_sub, am_i_mul, am_ok_i, am_i_cl, n_lt, n_le, n_eq, n_lt0, n_le0, n_0lt, n_0le, n_eq0, ne_eq, ↓reduceIte, not_true_eq_false, not_false_eq_true, and_true, true_and, and_false, false_and, eq_T, eq_F, lt_T, lt_F, le_T, le_F, qn_T, qn_F, and_F, b01_T, b01_F, e_isIn, Int32.toInt_toInt64, am_i_toInt, am_l_toInt, Int.toNat_natCast, Int.reduceToNat, Int.reduceAdd, Int.reduceSub, Int.reduceMul, Int.reduceNeg, Nat.reduceAdd, Nat.reduceMul, Nat.add_zero, Nat.mul_zero, Nat.zero_add, am_zb0, am_zb1, a1, sg_X12_qAsksWord_174]
  · obtain ⟨I', a1, a2⟩ := go 127 12 (by decide) (by decide) e
    refine ⟨I', ?_, a2⟩
    rw [sg_X12_qAsksWord_0]
    simp (disch := first | assumption | omega) only [rM hm, ly_csm, ly_cam, ly_cf, ly_kd, ly_ln, ↓Bool.cond_decide, cond_true, cond_false, ↓bI_p, ↓bV_p, ↓bL_p, bIJ_s, bVJ_s, bLJ_s, ↓am_let_s, Nat.blt, Nat.ble, Bool.and_true, Bool.true_and, Bool.and_self, Int.cast_ofNat_Int, am_i_add, am_i_sub, am_i_mul, am_ok_i, am_i_cl, n_lt, n_le, n_eq, n_lt0, n_le0, n_0lt, n_0le, n_eq0, ne_eq, ↓reduceIte, not_true_eq_false, not_false_eq_true, and_true, true_and, and_false, false_and, eq_T, eq_F, lt_T, lt_F, le_T, le_F, qn_T, qn_F, and_F, b01_T, b01_F, e_isIn, Int32.toInt_toInt64, am_i_toInt, am_l_toInt, Int.toNat_natCast, Int.reduceToNat, Int.reduceAdd, Int.reduceSub, Int.reduceMul, Int.reduceNeg, Nat.reduceAdd, Nat.reduceMul, Nat.add_zero, Nat.mul_zero, Nat.zero_add, am_zb0, am_zb1, a1, sg_X12_qAsksWord_174]
  · obtain ⟨I', a1, a2⟩ := go 128 16 (by decide) (by decide) e
    refine ⟨I', ?_, a2⟩
    rw [sg_X12_qAsksWord_0]
    simp (disch := first | assumption | omega) only [rM hm, ly_csm, ly_cam, ly_cf, ly_kd, ly_ln, ↓Bool.cond_decide, cond_true, cond_false, ↓bI_p, ↓bV_p, ↓bL_p, bIJ_s, bVJ_s, bLJ_s, ↓am_let_s, Nat.blt, Nat.ble, Bool.and_true, Bool.true_and, Bool.and_self, Int.cast_ofNat_Int, am_i_add, am_i_sub, am_i_mul, am_ok_i, am_i_cl, n_lt, n_le, n_eq, n_lt0, n_le0, n_0lt, n_0le, n_eq0, ne_eq, ↓reduceIte, not_true_eq_false, not_false_eq_true, and_true, true_and, and_false, false_and, eq_T, eq_F, lt_T, lt_F, le_T, le_F, qn_T, qn_F, and_F, b01_T, b01_F, e_isIn, Int32.toInt_toInt64, am_i_toInt, am_l_toInt, Int.toNat_natCast, Int.reduceToNat, Int.reduceAdd, Int.reduceSub, Int.reduceMul, Int.reduceNeg, Nat.reduceAdd, Nat.reduceMul, Nat.add_zero, Nat.mul_zero, Nat.zero_add, am_zb0, am_zb1, a1, sg_X12_qAsksWord_174]
  · obtain ⟨I', a1, a2⟩ := go 129 17 (by decide) (by decide) e
    refine ⟨I', ?_, a2⟩
    rw [sg_X12_qAsksWord_0]
    simp (disch := first | assumption | omega) only [rM hm, ly_csm, ly_cam, ly_cf, ly_kd, ly_ln, ↓Bool.cond_decide, cond_true, cond_false, ↓bI_p, ↓bV_p, ↓bL_p, bIJ_s, bVJ_s, bLJ_s, ↓am_let_s, Nat.blt, Nat.ble, Bool.and_true, Bool.true_and, Bool.and_self, Int.cast_ofNat_Int, am_i_add, am_i_sub, am_i_mul, am_ok_i, am_i_cl, n_lt, n_le, n_eq, n_lt0, n_le0, n_0lt, n_0le, n_eq0, ne_eq, ↓reduceIte, not_true_eq_false, not_false_eq_true, and_true, true_and, and_false, false_and, eq_T, eq_F, lt_T, lt_F, le_T, le_F, qn_T, qn_F, and_F, b01_T, b01_F, e_isIn, Int32.toInt_toInt64, am_i_toInt, am_l_toInt, Int.toNat_natCast, Int.reduceToNat, Int.reduceAdd, Int.reduceSub, Int.reduceMul, Int.reduceNeg, Nat.reduceAdd, Nat.reduceMul, Nat.add_zero, Nat.mul_zero, Nat.zero_add, am_zb0, am_zb1, a1, sg_X12_qAsksWord_174]
  · obtain ⟨I', a1, a2⟩ := go 130 18 (by decide) (by decide) e
    refine ⟨I', ?_, a2⟩
    rw [sg_X12_qAsksWord_0]
    simp (disch := first | assumption | omega) only [rM hm, ly_csm, ly_cam, ly_cf, ly_kd, ly_ln, ↓Bool.cond_decide, cond_true, cond_false, ↓bI_p, ↓bV_p, ↓bL_p, bIJ_s, bVJ_s, bLJ_s, ↓am_let_s, Nat.blt, Nat.ble, Bool.and_true, Bool.true_and, Bool.and_self, Int.cast_ofNat_Int, am_i_add, am_i_sub, am_i_mul, am_ok_i, am_i_cl, n_lt, n_le, n_eq, n_lt0, n_le0, n_0lt, n_0le, n_eq0, ne_eq, ↓reduceIte, not_true_eq_false, not_false_eq_true, and_true, true_and, and_false, false_and, eq_T, eq_F, lt_T, lt_F, le_T, le_F, qn_T, qn_F, and_F, b01_T, b01_F, e_isIn, Int32.toInt_toInt64, am_i_toInt, am_l_toInt, Int.toNat_natCast, Int.reduceToNat, Int.reduceAdd, Int.reduceSub, Int.reduceMul, Int.reduceNeg, Nat.reduceAdd, Nat.reduceMul, Nat.add_zero, Nat.mul_zero, Nat.zero_add, am_zb0, am_zb1, a1, sg_X12_qAsksWord_174]
  · obtain ⟨I', a1, a2⟩ := go 131 19 (by decide) (by decide) e
    refine ⟨I', ?_, a2⟩
    rw [sg_X12_qAsksWord_0]
    simp (disch := first | assumption | omega) only [rM hm, ly_csm, ly_cam, ly_cf, ly_kd, ly_ln, ↓Bool.cond_decide, cond_true, cond_false, ↓bI_p, ↓bV_p, ↓bL_p, bIJ_s, bVJ_s, bLJ_s, ↓am_let_s, Nat.blt, Nat.ble, Bool.and_true, Bool.true_and, Bool.and_self, Int.cast_ofNat_Int, am_i_add, am_i_sub, am_i_mul, am_ok_i, am_i_cl, n_lt, n_le, n_eq, n_lt0, n_le0, n_0lt, n_0le, n_eq0, ne_eq, ↓reduceIte, not_true_eq_false, not_false_eq_true, and_true, true_and, and_false, false_and, eq_T, eq_F, lt_T, lt_F, le_T, le_F, qn_T, qn_F, and_F, b01_T, b01_F, e_isIn, Int32.toInt_toInt64, am_i_toInt, am_l_toInt, Int.toNat_natCast, Int.reduceToNat, Int.reduceAdd, Int.reduceSub, Int.reduceMul, Int.reduceNeg, Nat.reduceAdd, Nat.reduceMul, Nat.add_zero, Nat.mul_zero, Nat.zero_add, am_zb0, am_zb1, a1, sg_X12_qAsksWord_174]
  · obtain ⟨I', a1, a2⟩ := go 132 9 (by decide) (by decide) e
    refine ⟨I', ?_, a2⟩
    rw [sg_X12_qAsksWord_0]
    simp (disch := first | assumption | omega) only [rM hm, ly_csm, ly_cam, ly_cf, ly_kd, ly_ln, ↓Bool.cond_decide, cond_true, cond_false, ↓bI_p, ↓bV_p, ↓bL_p, bIJ_s, bVJ_s, bLJ_s, ↓am_let_s, Nat.blt, Nat.ble, Bool.and_true, Bool.true_and, Bool.and_self, Int.cast_ofNat_Int, am_i_add, am_i_sub, am_i_mul, am_ok_i, am_i_cl, n_lt, n_le, n_eq, n_lt0, n_le0, n_0lt, n_0le, n_eq0, ne_eq, ↓reduceIte, not_true_eq_false, not_false_eq_true, and_true, true_and, and_false, false_and, eq_T, eq_F, lt_T, lt_F, le_T, le_F, qn_T, qn_F, and_F, b01_T, b01_F, e_isIn, Int32.toInt_toInt64, am_i_toInt, am_l_toInt, Int.toNat_natCast, Int.reduceToNat, Int.reduceAdd, Int.reduceSub, Int.reduceMul, Int.reduceNeg, Nat.reduceAdd, Nat.reduceMul, Nat.add_zero, Nat.mul_zero, Nat.zero_add, am_zb0, am_zb1, a1, sg_X12_qAsksWord_174]
  · obtain ⟨I', a1, a2⟩ := go 133 5 (by decide) (by decide) e
    refine ⟨I', ?_, a2⟩
    rw [sg_X12_qAsksWord_0]
    simp (disch := first | assumption | omega) only [rM hm, ly_csm, ly_cam, ly_cf, ly_kd, ly_ln, ↓Bool.cond_decide, cond_true, cond_false, ↓bI_p, ↓bV_p, ↓bL_p, bIJ_s, bVJ_s, bLJ_s, ↓am_let_s, Nat.blt, Nat.ble, Bool.and_true, Bool.true_and, Bool.and_self, Int.cast_ofNat_Int, am_i_add, am_i_sub, am_i_mul, am_ok_i, am_i_cl, n_lt, n_le, n_eq, n_lt0, n_le0, n_0lt, n_0le, n_eq0, ne_eq, ↓reduceIte, not_true_eq_false, not_false_eq_true, and_true, true_and, and_false, false_and, eq_T, eq_F, lt_T, lt_F, le_T, le_F, qn_T, qn_F, and_F, b01_T, b01_F, e_isIn, Int32.toInt_toInt64, am_i_toInt, am_l_toInt, Int.toNat_natCast, Int.reduceToNat, Int.reduceAdd, Int.reduceSub, Int.reduceMul, Int.reduceNeg, Nat.reduceAdd, Nat.reduceMul, Nat.add_zero, Nat.mul_zero, Nat.zero_add, am_zb0, am_zb1, a1, sg_X12_qAsksWord_174]
end MW
