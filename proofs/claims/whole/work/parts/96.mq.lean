/-! ===== the reference's codes and what waits ===== -/
def wtR (I : tI) : List Nat → Prop
  | [] => True
  | w :: W => I 135 W.length = am_i w ∧ wtR I W
def tkS (so : Nat) : Nat := if so = 3 then 2 else if so = 2 then 1 else 0
def sS (so o b : Nat) (W : List Nat) (C : List Int) (I : tI) : Prop := I 64 51 = am_i (tkS so) ∧ I 64 95 = am_i C.length ∧ I 64 97 = am_i W.length ∧ I 64 98 = am_i o ∧ I 64 99 = am_i b ∧ (∀ k c, C[k]? = some c → I 134 k = am_i c) ∧ wtR I W ∧ (∀ w ∈ W, w ≤ 61) ∧ C.length + W.length ≤ 1600 ∧ b ≤ 1600 ∧ o ≤ 6
def sqC (q k : Nat) : Prop := q = 134 ∨ q = 135 ∨ (q = 64 ∧ (k = 95 ∨ k = 97 ∨ k = 98))
section MQ
variable {d : Nat} {J : tJ} {R : tR} {I : tI} {so o b : Nat} {W : List Nat} {C : List Int}
theorem wtR_c {I' : tI} : ∀ {W : List Nat}, wtR I W → (∀ k, k < W.length → I' 135 k = I 135 k) → wtR I' W
  | [], _, _ => trivial
  | w :: W, h, e => ⟨by rw [e _ (by show W.length < W.length + 1; omega)]; exact h.1, wtR_c h.2 (fun k hk => e k (by show k < W.length + 1; omega))⟩
theorem sS_c {I' : tI} (h : sS so o b W C I) (e : ∀ q k, (q = 134 ∨ q = 135 ∨ (q = 64 ∧ (k = 51 ∨ k = 95 ∨ k = 97 ∨ k = 98 ∨ k = 99))) → I' q k = I q k) : sS so o b W C I' := by
  obtain ⟨h1, h2, h3, h4, h5, h6, h7, h8⟩ := h
  exact ⟨by rw [e _ _ (by omega)]; exact h1, by rw [e _ _ (by omega)]; exact h2, by rw [e _ _ (by omega)]; exact h3, by rw [e _ _ (by omega)]; exact h4, by rw [e _ _ (by omega)]; exact h5, fun k c hk => by rw [e _ _ (by omega)]; exact h6 k c hk, wtR_c h7 (fun k _ => e _ _ (by omega)), h8⟩
theorem cd_get {C : List Int} {c : Int} {I' : tI} (h : ∀ k x, C[k]? = some x → I' 134 k = am_i x) (h2 : I' 134 C.length = am_i c) : ∀ k x, (C ++ [c])[k]? = some x → I' 134 k = am_i x := by
  intro k x hx
  by_cases q : k < C.length
  · rw [List.getElem?_append_left q] at hx
    exact h k x hx
  · rw [List.getElem?_append_right (by omega)] at hx
    have hk0 : k - C.length = 0 := by
      cases hk : k - C.length with
      | zero => rfl
      | succ m => rw [hk] at hx; simp at hx
    rw [hk0] at hx
    have e : c = x := by simpa using hx
    rw [show k = C.length by omega, h2, e]
theorem e_qCode (hm : st_Rm R) (h : sS so o b W C I) {c : Int} (hl : C.length + W.length < 1600) : ∃ I', (∀ d, am_E (d + 1) 259 0 [(0, .ref 64), (1, .int (am_i c))] [] (I, J, R, 138) = some (none, (I', J, R, 138))) ∧ sS so o b W (C ++ [c]) I' ∧ ∀ q k, ¬ sqC q k → I' q k = I q k := by
  obtain ⟨h1, h2, h3, h4, h5, h6, h7, h8, h9, h10⟩ := h
  have u : am_up I 134 C.length (am_i c) 64 95 = am_i C.length := by rw [am_up_o (by omega)]; exact h2
  refine ⟨am_up (am_up I 134 C.length (am_i c)) 64 95 (am_i (C.length + 1 : Nat)), fun d => ?_, ⟨by rw [am_up_o (by omega), am_up_o (by omega)]; exact h1, by rw [am_up_e, List.length_append]; rfl, by rw [am_up_o (by omega), am_up_o (by omega)]; exact h3, by rw [am_up_o (by omega), am_up_o (by omega)]; exact h4, by rw [am_up_o (by omega), am_up_o (by omega)]; exact h5, cd_get (fun k x hx => ?_) (by rw [am_up_o (by omega), am_up_e]), wtR_c h7 (fun k _ => by rw [am_up_o (by omega), am_up_o (by omega)]), h8, by rw [List.length_append]; show C.length + 1 + W.length ≤ 1600; omega, h10⟩, fun q k e => by unfold sqC at e; rw [am_up_o (by omega), am_up_o (by omega)]⟩
  · rw [sg_X12_qCode_0]
    simp (disch := first | assumption | omega) only [rM hm, ly_csm, ly_cam, ly_cf, ly_kd, ly_ln, ↓Bool.cond_decide, cond_true, cond_false, ↓bI_p, ↓bV_p, ↓bL_p, bIJ_s, bVJ_s, bLJ_s, ↓am_let_s, Nat.blt, Nat.ble, Bool.and_true, Bool.true_and, Bool.and_self, Int.cast_ofNat_Int, am_i_add, am_i_sub, am_i_mul, am_ok_i, am_i_cl, n_lt, n_le, n_eq, n_lt0, n_le0, n_0lt, n_0le, n_eq0, ne_eq, ↓reduceIte, not_true_eq_false, not_false_eq_true, and_true, true_and, and_false, false_and, eq_T, eq_F, lt_T, lt_F, le_T, le_F, qn_T, qn_F, and_F, b01_T, b01_F, e_isIn, Int32.toInt_toInt64, am_i_toInt, am_l_toInt, Int.toNat_natCast, Int.reduceToNat, Int.reduceAdd, Int.reduceSub, Int.reduceMul, Int.reduceNeg, Nat.reduceAdd, Nat.reduceMul, Nat.add_zero, Nat.mul_zero, Nat.zero_add, am_zb0, am_zb1, h2, u, am_i_s]
  · have : k < C.length := by
      have := (List.getElem?_eq_some_iff.mp hx).1
      exact this
    rw [am_up_o (by omega), am_up_o (by omega)]
    exact h6 k x hx
theorem e_qDrops (hm : st_Rm R) {w : Nat} (h : sS so o b (w :: W) C I) : ∃ I', (∀ d, am_E (d + 2) 262 0 [(0, .ref 64)] [] (I, J, R, 138) = some (none, (I', J, R, 138))) ∧ sS so o b W (C ++ [(w : Int)]) I' ∧ ∀ q k, ¬ sqC q k → I' q k = I q k := by
  obtain ⟨h1, h2, h3, h4, h5, h6, ⟨h7, h7'⟩, h8, h9, h10⟩ := h
  have h9' : C.length + (W.length + 1) ≤ 1600 := h9
  have h3' : I 64 97 = am_i (W.length + 1 : Nat) := h3
  have e1 : ((W.length + 1 : Nat) : Int) - 1 = (W.length : Int) := by omega
  have hs : sS so o b W C (am_up I 64 97 (am_i W.length)) := ⟨by rw [am_up_o (by omega)]; exact h1, by rw [am_up_o (by omega)]; exact h2, am_up_e, by rw [am_up_o (by omega)]; exact h4, by rw [am_up_o (by omega)]; exact h5, fun k c hc => by rw [am_up_o (by omega)]; exact h6 k c hc, wtR_c h7' (fun k _ => am_up_o (by omega)), fun x hx => h8 x (List.mem_cons_of_mem _ hx), by omega, h10⟩
  obtain ⟨I', a1, a2, a3⟩ := e_qCode (J := J) (c := (w : Int)) hm hs (by omega)
  refine ⟨I', fun d => ?_, a2, fun q k e => by rw [a3 q k e, am_up_o (by unfold sqC at e; omega)]⟩
  have u7 : am_up I 64 97 (am_i W.length) 64 97 = am_i W.length := am_up_e
  have uw : am_up I 64 97 (am_i W.length) 135 W.length = am_i w := by rw [am_up_o (by omega)]; exact h7
  rw [sg_X12_qDrops_0]
  simp (disch := first | assumption | omega) only [rM hm, ly_csm, ly_cam, ly_cf, ly_kd, ly_ln, ↓Bool.cond_decide, cond_true, cond_false, ↓bI_p, ↓bV_p, ↓bL_p, bIJ_s, bVJ_s, bLJ_s, ↓am_let_s, Nat.blt, Nat.ble, Bool.and_true, Bool.true_and, Bool.and_self, Int.cast_ofNat_Int, am_i_add, am_i_sub, am_i_mul, am_ok_i, am_i_cl, n_lt, n_le, n_eq, n_lt0, n_le0, n_0lt, n_0le, n_eq0, ne_eq, ↓reduceIte, not_true_eq_false, not_false_eq_true, and_true, true_and, and_false, false_and, eq_T, eq_F, lt_T, lt_F, le_T, le_F, qn_T, qn_F, and_F, b01_T, b01_F, e_isIn, Int32.toInt_toInt64, am_i_toInt, am_l_toInt, Int.toNat_natCast, Int.reduceToNat, Int.reduceAdd, Int.reduceSub, Int.reduceMul, Int.reduceNeg, Nat.reduceAdd, Nat.reduceMul, Nat.add_zero, Nat.mul_zero, Nat.zero_add, am_zb0, am_zb1, h3', e1, u7, uw, a1]
theorem e_qIsOn (hm : st_Rm R) (h : sS so o b W C I) {v : Nat} (hv : v ≤ 61) : am_E (d + 1) 261 0 [(0, .ref 64), (1, .int (am_i v))] [] (I, J, R, 138) = some (some (.int (b01 (W.head? = some v))), (I, J, R, 138)) := by
  obtain ⟨h1, h2, h3, h4, h5, h6, h7, h8, h9, h10⟩ := h
  rw [sg_X12_qIsOn_0]
  cases W with
  | nil =>
    have h3' : I 64 97 = am_i 0 := h3
    rw [b01_f (by simp)]
    simp (disch := first | assumption | omega) only [rM hm, ly_csm, ly_cam, ly_cf, ly_kd, ly_ln, ↓Bool.cond_decide, cond_true, cond_false, ↓bI_p, ↓bV_p, ↓bL_p, bIJ_s, bVJ_s, bLJ_s, ↓am_let_s, Nat.blt, Nat.ble, Bool.and_true, Bool.true_and, Bool.and_self, Int.cast_ofNat_Int, am_i_add, am_i_sub, am_i_mul, am_ok_i, am_i_cl, n_lt, n_le, n_eq, n_lt0, n_le0, n_0lt, n_0le, n_eq0, ne_eq, ↓reduceIte, not_true_eq_false, not_false_eq_true, and_true, true_and, and_false, false_and, eq_T, eq_F, lt_T, lt_F, le_T, le_F, qn_T, qn_F, and_F, b01_T, b01_F, e_isIn, Int32.toInt_toInt64, am_i_toInt, am_l_toInt, Int.toNat_natCast, Int.reduceToNat, Int.reduceAdd, Int.reduceSub, Int.reduceMul, Int.reduceNeg, Nat.reduceAdd, Nat.reduceMul, Nat.add_zero, Nat.mul_zero, Nat.zero_add, am_zb0, am_zb1, h3', sg_X12_qIsOn_26]
  | cons w W =>
    have h9' : C.length + (W.length + 1) ≤ 1600 := h9
    have h3' : I 64 97 = am_i (W.length + 1 : Nat) := h3
    have e1 : ((W.length + 1 : Nat) : Int) - 1 = (W.length : Int) := by omega
    have w61 := h8 w List.mem_cons_self
    have hw := h7.1
    by_cases q : w = v
    · rw [b01_t (by rw [q]; rfl)]
      simp (disch := first | assumption | omega) only [rM hm, ly_csm, ly_cam, ly_cf, ly_kd, ly_ln, ↓Bool.cond_decide, cond_true, cond_false, ↓bI_p, ↓bV_p, ↓bL_p, bIJ_s, bVJ_s, bLJ_s, ↓am_let_s, Nat.blt, Nat.ble, Bool.and_true, Bool.true_and, Bool.and_self, Int.cast_ofNat_Int, am_i_add, am_i_sub, am_i_mul, am_ok_i, am_i_cl, n_lt, n_le, n_eq, n_lt0, n_le0, n_0lt, n_0le, n_eq0, ne_eq, ↓reduceIte, not_true_eq_false, not_false_eq_true, and_true, true_and, and_false, false_and, eq_T, eq_F, lt_T, lt_F, le_T, le_F, qn_T, qn_F, and_F, b01_T, b01_F, e_isIn, Int32.toInt_toInt64, am_i_toInt, am_l_toInt, Int.toNat_natCast, Int.reduceToNat, Int.reduceAdd, Int.reduceSub, Int.reduceMul, Int.reduceNeg, Nat.reduceAdd, Nat.reduceMul, Nat.add_zero, Nat.mul_zero, Nat.zero_add, am_zb0, am_zb1, h3', e1, hw]
    · rw [b01_f (show ¬ (w :: W).head? = some v from fun e => q (Option.some.inj e))]
      simp (disch := first | assumption | omega) only [rM hm, ly_csm, ly_cam, ly_cf, ly_kd, ly_ln, ↓Bool.cond_decide, cond_true, cond_false, ↓bI_p, ↓bV_p, ↓bL_p, bIJ_s, bVJ_s, bLJ_s, ↓am_let_s, Nat.blt, Nat.ble, Bool.and_true, Bool.true_and, Bool.and_self, Int.cast_ofNat_Int, am_i_add, am_i_sub, am_i_mul, am_ok_i, am_i_cl, n_lt, n_le, n_eq, n_lt0, n_le0, n_0lt, n_0le, n_eq0, ne_eq, ↓reduceIte, not_true_eq_false, not_false_eq_true, and_true, true_and, and_false, false_and, eq_T, eq_F, lt_T, lt_F, le_T, le_F, qn_T, qn_F, and_F, b01_T, b01_F, e_isIn, Int32.toInt_toInt64, am_i_toInt, am_l_toInt, Int.toNat_natCast, Int.reduceToNat, Int.reduceAdd, Int.reduceSub, Int.reduceMul, Int.reduceNeg, Nat.reduceAdd, Nat.reduceMul, Nat.add_zero, Nat.mul_zero, Nat.zero_add, am_zb0, am_zb1, h3', e1, hw, sg_X12_qIsOn_26]
theorem push_s {w : Nat} (h : sS so o b W C I) (hw : w ≤ 61) (hl : C.length + W.length < 1600) : sS so o b (w :: W) C (am_up (am_up I 135 W.length (am_i w)) 64 97 (am_i (W.length + 1 : Nat))) := by
  obtain ⟨h1, h2, h3, h4, h5, h6, h7, h8, h9, h10⟩ := h
  exact ⟨by rw [am_up_o (by omega), am_up_o (by omega)]; exact h1, by rw [am_up_o (by omega), am_up_o (by omega)]; exact h2, am_up_e, by rw [am_up_o (by omega), am_up_o (by omega)]; exact h4, by rw [am_up_o (by omega), am_up_o (by omega)]; exact h5, fun k c hc => by rw [am_up_o (by omega), am_up_o (by omega)]; exact h6 k c hc, ⟨by rw [am_up_o (by omega), am_up_e], wtR_c h7 (fun k hk => by rw [am_up_o (by omega), am_up_o (by omega)])⟩, fun x hx => by rcases List.mem_cons.mp hx with e | e; rw [e]; exact hw; exact h8 x e, by show C.length + (W.length + 1) ≤ 1600; omega, h10⟩
theorem sS_o {o' : Nat} (h : sS so o b W C I) (ho : o' ≤ 6) : sS so o' b W C (am_up I 64 98 (am_i o')) := by
  obtain ⟨h1, h2, h3, h4, h5, h6, h7, h8, h9, h10, h11⟩ := h
  exact ⟨by rw [am_up_o (by omega)]; exact h1, by rw [am_up_o (by omega)]; exact h2, by rw [am_up_o (by omega)]; exact h3, am_up_e, by rw [am_up_o (by omega)]; exact h5, fun k c hc => by rw [am_up_o (by omega)]; exact h6 k c hc, wtR_c h7 (fun k _ => am_up_o (by omega)), h8, h9, h10, ho⟩
theorem e_qOpens (hm : st_Rm R) (h : sS so o b W C I) {w : Nat} {pl : Int32} (hw : w ≤ 61) (hl : C.length + W.length < 1600) (ho : o < 6) (h5 : I 64 5 = am_i 0) : ∃ I', (∀ d, am_E (d + 2) 260 0 [(0, .ref 64), (1, .int (am_i w)), (2, .int pl)] [] (I, J, R, 138) = some (none, (I', J, R, 138))) ∧ sS so (o + 1) b (w :: W) C I' ∧ ∀ q k, ¬ sqC q k → I' q k = I q k := by
  have hs := push_s (sS_o (o' := o + 1) h (by omega)) hw hl
  obtain ⟨h1, h2, h3, h4, h5', h6, h7, h8, h9, h10⟩ := h
  have u7 : am_up I 64 98 (am_i (o + 1 : Nat)) 64 97 = am_i W.length := by rw [am_up_o (by omega)]; exact h3
  have v7 : am_up (am_up I 64 98 (am_i (o + 1 : Nat))) 135 W.length (am_i w) 64 97 = am_i W.length := by rw [am_up_o (by omega)]; exact u7
  refine ⟨_, fun d => ?_, hs, fun q k e => by unfold sqC at e; rw [am_up_o (by omega), am_up_o (by omega), am_up_o (by omega)]⟩
  rw [sg_X12_qOpens_0]
  simp (disch := first | assumption | omega) only [rM hm, ly_csm, ly_cam, ly_cf, ly_kd, ly_ln, ↓Bool.cond_decide, cond_true, cond_false, ↓bI_p, ↓bV_p, ↓bL_p, bIJ_s, bVJ_s, bLJ_s, ↓am_let_s, Nat.blt, Nat.ble, Bool.and_true, Bool.true_and, Bool.and_self, Int.cast_ofNat_Int, am_i_add, am_i_sub, am_i_mul, am_ok_i, am_i_cl, n_lt, n_le, n_eq, n_lt0, n_le0, n_0lt, n_0le, n_eq0, ne_eq, ↓reduceIte, not_true_eq_false, not_false_eq_true, and_true, true_and, and_false, false_and, eq_T, eq_F, lt_T, lt_F, le_T, le_F, qn_T, qn_F, and_F, b01_T, b01_F, e_isIn, Int32.toInt_toInt64, am_i_toInt, am_l_toInt, Int.toNat_natCast, Int.reduceToNat, Int.reduceAdd, Int.reduceSub, Int.reduceMul, Int.reduceNeg, Nat.reduceAdd, Nat.reduceMul, Nat.add_zero, Nat.mul_zero, Nat.zero_add, am_zb0, am_zb1, h5, h4, am_i_s, u7, v7]
theorem e_qOpens6 (hm : st_Rm R) (h : sS so o b W C I) {w : Nat} {pl : Int32} (ho : o = 6) (h5 : I 64 5 = am_i 0) : am_E (d + 2) 260 0 [(0, .ref 64), (1, .int (am_i w)), (2, .int pl)] [] (I, J, R, 138) = some (none, (am_up (am_up I 64 5 (am_i 4)) 64 6 pl, J, R, 138)) := by
  obtain ⟨h1, h2, h3, h4, h5', h6, h7, h8, h9, h10⟩ := h
  have fl := fun d => m_fail (d := d) (J := J) (R := R) (I := I) (v := am_i 4) (w := pl) hm h5
  subst ho
  have h4' : I 64 98 = am_i 6 := h4
  rw [sg_X12_qOpens_0]
  simp (disch := first | assumption | omega) only [rM hm, ly_csm, ly_cam, ly_cf, ly_kd, ly_ln, ↓Bool.cond_decide, cond_true, cond_false, ↓bI_p, ↓bV_p, ↓bL_p, bIJ_s, bVJ_s, bLJ_s, ↓am_let_s, Nat.blt, Nat.ble, Bool.and_true, Bool.true_and, Bool.and_self, Int.cast_ofNat_Int, am_i_add, am_i_sub, am_i_mul, am_ok_i, am_i_cl, n_lt, n_le, n_eq, n_lt0, n_le0, n_0lt, n_0le, n_eq0, ne_eq, ↓reduceIte, not_true_eq_false, not_false_eq_true, and_true, true_and, and_false, false_and, eq_T, eq_F, lt_T, lt_F, le_T, le_F, qn_T, qn_F, and_F, b01_T, b01_F, e_isIn, Int32.toInt_toInt64, am_i_toInt, am_l_toInt, Int.toNat_natCast, Int.reduceToNat, Int.reduceAdd, Int.reduceSub, Int.reduceMul, Int.reduceNeg, Nat.reduceAdd, Nat.reduceMul, Nat.add_zero, Nat.mul_zero, Nat.zero_add, am_zb0, am_zb1, h5, h4', fl]
/-- the bracket that is open last above the base -/
def brF (b : Nat) : List Nat → Int
  | [] => -1
  | w :: W => if W.length < b then -1 else if 20 ≤ w ∧ w ≤ 24 then (w : Int) else brF b W
theorem e_isBr {w : Nat} {M : am_Mem} (hw : w ≤ 61) : am_E (d + 1) 263 0 [(0, .int (am_i w))] [] M = some (some (.int (b01 (20 ≤ w ∧ w ≤ 24))), M) := by
  rw [sg_X12_qIsBracket_0]
  by_cases q : w < 20
  · rw [b01_f (by omega)]
    simp (disch := first | assumption | omega) only [↓Bool.cond_decide, cond_true, cond_false, ↓am_let_s, ↓bI_p, bIJ_s, ↓bV_p, bVJ_s, ↓bL_p, bLJ_s, ly_cf, Bool.and_self, Bool.and_true, am_i_add, am_i_sub, am_i_mul, am_ok_i, am_i_cl, n_lt, n_le, n_eq, n_lt0, n_le0, n_0lt, n_0le, n_eq0, ne_eq, ↓reduceIte, not_true_eq_false, not_false_eq_true, and_true, true_and, and_false, false_and, eq_T, eq_F, lt_T, lt_F, le_T, le_F, qn_T, qn_F, and_F, b01_T, b01_F, e_isIn, Int32.toInt_toInt64, am_i_toInt, am_l_toInt, Int.toNat_natCast, Int.reduceToNat, Int.reduceAdd, Int.reduceSub, Int.reduceMul, Int.reduceNeg, Nat.reduceAdd, Nat.reduceMul, Nat.add_zero, Nat.mul_zero, Nat.zero_add, am_zb0, am_zb1, sg_X12_qIsBracket_16]
  · by_cases q2 : 24 < w
    · rw [b01_f (by omega)]
      simp (disch := first | assumption | omega) only [↓Bool.cond_decide, cond_true, cond_false, ↓am_let_s, ↓bI_p, bIJ_s, ↓bV_p, bVJ_s, ↓bL_p, bLJ_s, ly_cf, Bool.and_self, Bool.and_true, am_i_add, am_i_sub, am_i_mul, am_ok_i, am_i_cl, n_lt, n_le, n_eq, n_lt0, n_le0, n_0lt, n_0le, n_eq0, ne_eq, ↓reduceIte, not_true_eq_false, not_false_eq_true, and_true, true_and, and_false, false_and, eq_T, eq_F, lt_T, lt_F, le_T, le_F, qn_T, qn_F, and_F, b01_T, b01_F, e_isIn, Int32.toInt_toInt64, am_i_toInt, am_l_toInt, Int.toNat_natCast, Int.reduceToNat, Int.reduceAdd, Int.reduceSub, Int.reduceMul, Int.reduceNeg, Nat.reduceAdd, Nat.reduceMul, Nat.add_zero, Nat.mul_zero, Nat.zero_add, am_zb0, am_zb1, sg_X12_qIsBracket_16]
    · rw [b01_t (by omega)]
      simp (disch := first | assumption | omega) only [↓Bool.cond_decide, cond_true, cond_false, ↓am_let_s, ↓bI_p, bIJ_s, ↓bV_p, bVJ_s, ↓bL_p, bLJ_s, ly_cf, Bool.and_self, Bool.and_true, am_i_add, am_i_sub, am_i_mul, am_ok_i, am_i_cl, n_lt, n_le, n_eq, n_lt0, n_le0, n_0lt, n_0le, n_eq0, ne_eq, ↓reduceIte, not_true_eq_false, not_false_eq_true, and_true, true_and, and_false, false_and, eq_T, eq_F, lt_T, lt_F, le_T, le_F, qn_T, qn_F, and_F, b01_T, b01_F, e_isIn, Int32.toInt_toInt64, am_i_toInt, am_l_toInt, Int.toNat_natCast, Int.reduceToNat, Int.reduceAdd, Int.reduceSub, Int.reduceMul, Int.reduceNeg, Nat.reduceAdd, Nat.reduceMul, Nat.add_zero, Nat.mul_zero, Nat.zero_add, am_zb0, am_zb1]
theorem m_br7 (hm : st_Rm R) (hb : I 64 99 = am_i b) (hb2 : b ≤ 1600) : ∀ (W : List Nat), W.length ≤ 1600 → wtR I W → (∀ w ∈ W, w ≤ 61) → am_E (d + 2) 264 7 [(0, .ref 64), (1, .int (am_i ((W.length : Int) - 1)))] [] (I, J, R, 138) = some (some (.int (am_i (brF b W))), (I, J, R, 138))
  | [], hl, hw, h8 => by
    have e : (((([] : List Nat).length : Nat) : Int) - 1) = -1 := rfl
    rw [sg_X12_qBracket_7, e, show brF b [] = -1 from rfl]
    simp (disch := first | assumption | omega) only [rM hm, ly_csm, ly_cam, ly_cf, ly_kd, ly_ln, ↓Bool.cond_decide, cond_true, cond_false, ↓bI_p, ↓bV_p, ↓bL_p, bIJ_s, bVJ_s, bLJ_s, ↓am_let_s, Nat.blt, Nat.ble, Bool.and_true, Bool.true_and, Bool.and_self, Int.cast_ofNat_Int, am_i_add, am_i_sub, am_i_mul, am_ok_i, am_i_cl, n_lt, n_le, n_eq, n_lt0, n_le0, n_0lt, n_0le, n_eq0, ne_eq, ↓reduceIte, not_true_eq_false, not_false_eq_true, and_true, true_and, and_false, false_and, eq_T, eq_F, lt_T, lt_F, le_T, le_F, qn_T, qn_F, and_F, b01_T, b01_F, e_isIn, Int32.toInt_toInt64, am_i_toInt, am_l_toInt, Int.toNat_natCast, Int.reduceToNat, Int.reduceAdd, Int.reduceSub, Int.reduceMul, Int.reduceNeg, Nat.reduceAdd, Nat.reduceMul, Nat.add_zero, Nat.mul_zero, Nat.zero_add, am_zb0, am_zb1, hb, sg_X12_qBracket_33]
  | w :: W, hl, hw, h8 => by
    have ih := m_br7 hm hb hb2 W (by have : W.length + 1 ≤ 1600 := hl; omega) hw.2 (fun x hx => h8 x (List.mem_cons_of_mem _ hx))
    have hl' : W.length + 1 ≤ 1600 := hl
    have e : ((((w :: W).length : Nat) : Int) - 1) = (W.length : Int) := by show (((W.length + 1 : Nat) : Int) - 1) = _; omega
    have w61 := h8 w List.mem_cons_self
    have ib := fun d => e_isBr (d := d) (w := w) (M := (I, J, R, 138)) w61
    have em : (W.length : Int) + -1 = (W.length : Int) - 1 := by omega
    have hw1 := hw.1
    have eb : brF b (w :: W) = if W.length < b then -1 else if 20 ≤ w ∧ w ≤ 24 then (w : Int) else brF b W := rfl
    rw [sg_X12_qBracket_7, e, eb]
    by_cases q : W.length < b
    · rw [if_pos q]
      simp (disch := first | assumption | omega) only [rM hm, ly_csm, ly_cam, ly_cf, ly_kd, ly_ln, ↓Bool.cond_decide, cond_true, cond_false, ↓bI_p, ↓bV_p, ↓bL_p, bIJ_s, bVJ_s, bLJ_s, ↓am_let_s, Nat.blt, Nat.ble, Bool.and_true, Bool.true_and, Bool.and_self, Int.cast_ofNat_Int, am_i_add, am_i_sub, am_i_mul, am_ok_i, am_i_cl, n_lt, n_le, n_eq, n_lt0, n_le0, n_0lt, n_0le, n_eq0, ne_eq, ↓reduceIte, not_true_eq_false, not_false_eq_true, and_true, true_and, and_false, false_and, eq_T, eq_F, lt_T, lt_F, le_T, le_F, qn_T, qn_F, and_F, b01_T, b01_F, e_isIn, Int32.toInt_toInt64, am_i_toInt, am_l_toInt, Int.toNat_natCast, Int.reduceToNat, Int.reduceAdd, Int.reduceSub, Int.reduceMul, Int.reduceNeg, Nat.reduceAdd, Nat.reduceMul, Nat.add_zero, Nat.mul_zero, Nat.zero_add, am_zb0, am_zb1, hb, sg_X12_qBracket_33]
    · rw [if_neg q]
      by_cases q2 : 20 ≤ w ∧ w ≤ 24
      · rw [if_pos q2]
        simp (disch := first | assumption | omega) only [rM hm, ly_csm, ly_cam, ly_cf, ly_kd, ly_ln, ↓Bool.cond_decide, cond_true, cond_false, ↓bI_p, ↓bV_p, ↓bL_p, bIJ_s, bVJ_s, bLJ_s, ↓am_let_s, Nat.blt, Nat.ble, Bool.and_true, Bool.true_and, Bool.and_self, Int.cast_ofNat_Int, am_i_add, am_i_sub, am_i_mul, am_ok_i, am_i_cl, n_lt, n_le, n_eq, n_lt0, n_le0, n_0lt, n_0le, n_eq0, ne_eq, ↓reduceIte, not_true_eq_false, not_false_eq_true, and_true, true_and, and_false, false_and, eq_T, eq_F, lt_T, lt_F, le_T, le_F, qn_T, qn_F, and_F, b01_T, b01_F, e_isIn, Int32.toInt_toInt64, am_i_toInt, am_l_toInt, Int.toNat_natCast, Int.reduceToNat, Int.reduceAdd, Int.reduceSub, Int.reduceMul, Int.reduceNeg, Nat.reduceAdd, Nat.reduceMul, Nat.add_zero, Nat.mul_zero, Nat.zero_add, am_zb0, am_zb1, hb, hw1, ib, b01_t q2, sg_X12_qBracket_33]
      · rw [if_neg q2]
        simp (disch := first | assumption | omega) only [rM hm, ly_csm, ly_cam, ly_cf, ly_kd, ly_ln, ↓Bool.cond_decide, cond_true, cond_false, ↓bI_p, ↓bV_p, ↓bL_p, bIJ_s, bVJ_s, bLJ_s, ↓am_let_s, Nat.blt, Nat.ble, Bool.and_true, Bool.true_and, Bool.and_self, Int.cast_ofNat_Int, am_i_add, am_i_sub, am_i_mul, am_ok_i, am_i_cl, n_lt, n_le, n_eq, n_lt0, n_le0, n_0lt, n_0le, n_eq0, ne_eq, ↓reduceIte, not_true_eq_false, not_false_eq_true, and_true, true_and, and_false, false_and, eq_T, eq_F, lt_T, lt_F, le_T, le_F, qn_T, qn_F, and_F, b01_T, b01_F, e_isIn, Int32.toInt_toInt64, am_i_toInt, am_l_toInt, Int.toNat_natCast, Int.reduceToNat, Int.reduceAdd, Int.reduceSub, Int.reduceMul, Int.reduceNeg, Nat.reduceAdd, Nat.reduceMul, Nat.add_zero, Nat.mul_zero, Nat.zero_add, am_zb0, am_zb1, hb, hw1, ib, b01_f q2, em, ih]
theorem e_qBracket (hm : st_Rm R) (h : sS so o b W C I) : am_E (d + 2) 264 0 [(0, .ref 64)] [] (I, J, R, 138) = some (some (.int (am_i (brF b W))), (I, J, R, 138)) := by
  obtain ⟨h1, h2, h3, h4, h5, h6, h7, h8, h9, h10, h11⟩ := h
  have m7 := fun d => m_br7 (d := d) (J := J) (R := R) hm h5 h10 W (by omega) h7 h8
  rw [sg_X12_qBracket_0]
  simp (disch := first | assumption | omega) only [rM hm, ly_csm, ly_cam, ly_cf, ly_kd, ly_ln, ↓Bool.cond_decide, cond_true, cond_false, ↓bI_p, ↓bV_p, ↓bL_p, bIJ_s, bVJ_s, bLJ_s, ↓am_let_s, Nat.blt, Nat.ble, Bool.and_true, Bool.true_and, Bool.and_self, Int.cast_ofNat_Int, h3, am_i_sub, m7]
/-- operators are dropped down to a bracket -/
theorem e_dropTo (hm : st_Rm R) : ∀ (ops : List Nat) (C : List Int) (I : tI), (∀ w ∈ ops, w < 20) → sS so o b (ops ++ W) C I → b ≤ W.length → (W.length = b ∨ ∃ w W', W = w :: W' ∧ 20 ≤ w ∧ w ≤ 24) → ∃ I', (∀ d, am_E (d + 3) 265 0 [(0, .ref 64)] [] (I, J, R, 138) = some (none, (I', J, R, 138))) ∧ sS so o b W (C ++ List.map (fun w : Nat => (w : Int)) ops) I' ∧ ∀ q k, ¬ sqC q k → I' q k = I q k
  | [], C, I, _, h, hb, hW => by
    have h' : sS so o b W C I := h
    obtain ⟨h1, h2, h3, h4, h5, h6, h7, h8, h9, h10, h11⟩ := h'
    refine ⟨I, fun d => ?_, by rw [List.map_nil, List.append_nil]; exact h, fun _ _ _ => rfl⟩
    rw [sg_X12_qDropsToBracket_0]
    rcases hW with hW | ⟨w, W', rfl, w1, w2⟩
    · simp (disch := first | assumption | omega) only [rM hm, ly_csm, ly_cam, ly_cf, ly_kd, ly_ln, ↓Bool.cond_decide, cond_true, cond_false, ↓bI_p, ↓bV_p, ↓bL_p, bIJ_s, bVJ_s, bLJ_s, ↓am_let_s, Nat.blt, Nat.ble, Bool.and_true, Bool.true_and, Bool.and_self, Int.cast_ofNat_Int, am_i_add, am_i_sub, am_i_mul, am_ok_i, am_i_cl, n_lt, n_le, n_eq, n_lt0, n_le0, n_0lt, n_0le, n_eq0, ne_eq, ↓reduceIte, not_true_eq_false, not_false_eq_true, and_true, true_and, and_false, false_and, eq_T, eq_F, lt_T, lt_F, le_T, le_F, qn_T, qn_F, and_F, b01_T, b01_F, e_isIn, Int32.toInt_toInt64, am_i_toInt, am_l_toInt, Int.toNat_natCast, Int.reduceToNat, Int.reduceAdd, Int.reduceSub, Int.reduceMul, Int.reduceNeg, Nat.reduceAdd, Nat.reduceMul, Nat.add_zero, Nat.mul_zero, Nat.zero_add, am_zb0, am_zb1, h3, h5, sg_X12_qDropsToBracket_35]
    · have h9' : C.length + (W'.length + 1) ≤ 1600 := h9
      have h3' : I 64 97 = am_i (W'.length + 1 : Nat) := h3
      have hb' : b ≤ W'.length + 1 := hb
      have e1 : ((W'.length + 1 : Nat) : Int) - 1 = (W'.length : Int) := by omega
      have ib := fun d => e_isBr (d := d) (w := w) (M := (I, J, R, 138)) (by omega)
      have hw := h7.1
      have w12 : 20 ≤ w ∧ w ≤ 24 := ⟨w1, w2⟩
      by_cases qb : b = W'.length + 1
      · simp (disch := first | assumption | omega) only [rM hm, ly_csm, ly_cam, ly_cf, ly_kd, ly_ln, ↓Bool.cond_decide, cond_true, cond_false, ↓bI_p, ↓bV_p, ↓bL_p, bIJ_s, bVJ_s, bLJ_s, ↓am_let_s, Nat.blt, Nat.ble, Bool.and_true, Bool.true_and, Bool.and_self, Int.cast_ofNat_Int, am_i_add, am_i_sub, am_i_mul, am_ok_i, am_i_cl, n_lt, n_le, n_eq, n_lt0, n_le0, n_0lt, n_0le, n_eq0, ne_eq, ↓reduceIte, not_true_eq_false, not_false_eq_true, and_true, true_and, and_false, false_and, eq_T, eq_F, lt_T, lt_F, le_T, le_F, qn_T, qn_F, and_F, b01_T, b01_F, e_isIn, Int32.toInt_toInt64, am_i_toInt, am_l_toInt, Int.toNat_natCast, Int.reduceToNat, Int.reduceAdd, Int.reduceSub, Int.reduceMul, Int.reduceNeg, Nat.reduceAdd, Nat.reduceMul, Nat.add_zero, Nat.mul_zero, Nat.zero_add, am_zb0, am_zb1, h3', h5, sg_X12_qDropsToBracket_35]
      · simp (disch := first | assumption | omega) only [rM hm, ly_csm, ly_cam, ly_cf, ly_kd, ly_ln, ↓Bool.cond_decide, cond_true, cond_false, ↓bI_p, ↓bV_p, ↓bL_p, bIJ_s, bVJ_s, bLJ_s, ↓am_let_s, Nat.blt, Nat.ble, Bool.and_true, Bool.true_and, Bool.and_self, Int.cast_ofNat_Int, am_i_add, am_i_sub, am_i_mul, am_ok_i, am_i_cl, n_lt, n_le, n_eq, n_lt0, n_le0, n_0lt, n_0le, n_eq0, ne_eq, ↓reduceIte, not_true_eq_false, not_false_eq_true, and_true, true_and, and_false, false_and, eq_T, eq_F, lt_T, lt_F, le_T, le_F, qn_T, qn_F, and_F, b01_T, b01_F, e_isIn, Int32.toInt_toInt64, am_i_toInt, am_l_toInt, Int.toNat_natCast, Int.reduceToNat, Int.reduceAdd, Int.reduceSub, Int.reduceMul, Int.reduceNeg, Nat.reduceAdd, Nat.reduceMul, Nat.add_zero, Nat.mul_zero, Nat.zero_add, am_zb0, am_zb1, h3', h5, e1, hw, ib, b01_t w12, sg_X12_qDropsToBracket_35]
  | w :: ops, C, I, hops, h, hb, hW => by
    have w20 := hops w List.mem_cons_self
    have h' : sS so o b (w :: (ops ++ W)) C I := h
    obtain ⟨I1, a1, a2, a3⟩ := e_qDrops (J := J) hm h'
    obtain ⟨I2, b1, b2, b3⟩ := e_dropTo hm ops (C ++ [(w : Int)]) I1 (fun x hx => hops x (List.mem_cons_of_mem _ hx)) a2 hb hW
    refine ⟨I2, fun d => ?_, ?_, fun q k e => by rw [b3 q k e, a3 q k e]⟩
    · obtain ⟨h1, h2, h3, h4, h5, h6, h7, h8, h9, h10, h11⟩ := h'
      have ll : (ops ++ W).length = ops.length + W.length := List.length_append
      have h9' : C.length + ((ops ++ W).length + 1) ≤ 1600 := h9
      have h3' : I 64 97 = am_i ((ops ++ W).length + 1 : Nat) := h3
      have e1 : (((ops ++ W).length + 1 : Nat) : Int) - 1 = ((ops ++ W).length : Int) := by omega
      have ib := fun d => e_isBr (d := d) (w := w) (M := (I, J, R, 138)) (by omega)
      have hw := h7.1
      have w12 : ¬ (20 ≤ w ∧ w ≤ 24) := by omega
      have bl : b < (ops ++ W).length + 1 := by omega
      rw [← b1 d, sg_X12_qDropsToBracket_0]
      simp (disch := first | assumption | omega) only [rM hm, ly_csm, ly_cam, ly_cf, ly_kd, ly_ln, ↓Bool.cond_decide, cond_true, cond_false, ↓bI_p, ↓bV_p, ↓bL_p, bIJ_s, bVJ_s, bLJ_s, ↓am_let_s, Nat.blt, Nat.ble, Bool.and_true, Bool.true_and, Bool.and_self, Int.cast_ofNat_Int, am_i_add, am_i_sub, am_i_mul, am_ok_i, am_i_cl, n_lt, n_le, n_eq, n_lt0, n_le0, n_0lt, n_0le, n_eq0, ne_eq, ↓reduceIte, not_true_eq_false, not_false_eq_true, and_true, true_and, and_false, false_and, eq_T, eq_F, lt_T, lt_F, le_T, le_F, qn_T, qn_F, and_F, b01_T, b01_F, e_isIn, Int32.toInt_toInt64, am_i_toInt, am_l_toInt, Int.toNat_natCast, Int.reduceToNat, Int.reduceAdd, Int.reduceSub, Int.reduceMul, Int.reduceNeg, Nat.reduceAdd, Nat.reduceMul, Nat.add_zero, Nat.mul_zero, Nat.zero_add, am_zb0, am_zb1, h3', h5, e1, hw, ib, b01_f w12, a1]
    · rw [List.map_cons, List.append_cons]
      exact b2
/-- a part has ended -/
def enB (b : Nat) : List Nat → List Int → Nat → List Nat × List Int × Nat
  | [], C, o => ([], C, o)
  | w :: W, C, o => if b < W.length + 1 ∧ 60 ≤ w then enB b W (C ++ [(w : Int)]) (o - 1) else (w :: W, C, o)
theorem e_ends (hm : st_Rm R) : ∀ (W : List Nat) (C : List Int) (o : Nat) (I : tI), sS so o b W C I → I 64 5 = am_i 0 → (∀ k, (W.filter (fun w => Nat.ble 60 w)).length ≤ k → k = k) → ((W.filter (fun w => Nat.ble 60 w)).length ≤ o) → ∃ I', (∀ d, am_E (d + 3) 269 0 [(0, .ref 64)] [] (I, J, R, 138) = some (none, (I', J, R, 138))) ∧ sS so (enB b W C o).2.2 b (enB b W C o).1 (enB b W C o).2.1 I' ∧ ∀ q k, ¬ sqC q k → I' q k = I q k
  | [], C, o, I, h, h5, _, hf => by
    obtain ⟨g1, g2, g3, g4, g5, g6, g7, g8, g9, g10, g11⟩ := h
    refine ⟨I, fun d => ?_, ⟨g1, g2, g3, g4, g5, g6, g7, g8, g9, g10, g11⟩, fun _ _ _ => rfl⟩
    have g3' : I 64 97 = am_i 0 := g3
    rw [sg_X12_qEndsPart_0]
    simp (disch := first | assumption | omega) only [rM hm, ly_csm, ly_cam, ly_cf, ly_kd, ly_ln, ↓Bool.cond_decide, cond_true, cond_false, ↓bI_p, ↓bV_p, ↓bL_p, bIJ_s, bVJ_s, bLJ_s, ↓am_let_s, Nat.blt, Nat.ble, Bool.and_true, Bool.true_and, Bool.and_self, Int.cast_ofNat_Int, am_i_add, am_i_sub, am_i_mul, am_ok_i, am_i_cl, n_lt, n_le, n_eq, n_lt0, n_le0, n_0lt, n_0le, n_eq0, ne_eq, ↓reduceIte, not_true_eq_false, not_false_eq_true, and_true, true_and, and_false, false_and, eq_T, eq_F, lt_T, lt_F, le_T, le_F, qn_T, qn_F, and_F, b01_T, b01_F, e_isIn, Int32.toInt_toInt64, am_i_toInt, am_l_toInt, Int.toNat_natCast, Int.reduceToNat, Int.reduceAdd, Int.reduceSub, Int.reduceMul, Int.reduceNeg, Nat.reduceAdd, Nat.reduceMul, Nat.add_zero, Nat.mul_zero, Nat.zero_add, am_zb0, am_zb1, h5, g3', g5, sg_X12_qEndsPart_51]
  | w :: W, C, o, I, h, h5, _, hf => by
    have h' := h
    obtain ⟨g1, g2, g3, g4, g5, g6, g7, g8, g9, g10, g11⟩ := h'
    have h9' : C.length + (W.length + 1) ≤ 1600 := g9
    have h3' : I 64 97 = am_i (W.length + 1 : Nat) := g3
    have e1 : ((W.length + 1 : Nat) : Int) - 1 = (W.length : Int) := by omega
    have hw := g7.1
    have w61 := g8 w List.mem_cons_self
    by_cases q : b < W.length + 1 ∧ 60 ≤ w
    · have eE : enB b (w :: W) C o = enB b W (C ++ [(w : Int)]) (o - 1) := if_pos q
      have fl : (List.filter (fun w => Nat.ble 60 w) (w :: W)).length = (List.filter (fun w => Nat.ble 60 w) W).length + 1 := by
        rw [List.filter_cons_of_pos (by rw [Nat.ble_eq]; exact q.2)]
        rfl
      have o1 : 1 ≤ o := by omega
      obtain ⟨I1, a1, a2, a3⟩ := e_qDrops (J := J) hm (sS_o (o' := o - 1) h (by omega))
      obtain ⟨I2, b1, b2, b3⟩ := e_ends hm W (C ++ [(w : Int)]) (o - 1) I1 a2 (by rw [a3 _ _ (by unfold sqC; omega), am_up_o (by omega)]; exact h5) (fun _ _ => rfl) (by omega)
      rw [eE]
      refine ⟨I2, fun d => ?_, b2, fun q k e => by rw [b3 q k e, a3 q k e, am_up_o (by unfold sqC at e; omega)]⟩
      have eo : (o : Int) - 1 = ((o - 1 : Nat) : Int) := by omega
      rw [← b1 d, sg_X12_qEndsPart_0]
      simp (disch := first | assumption | omega) only [rM hm, ly_csm, ly_cam, ly_cf, ly_kd, ly_ln, ↓Bool.cond_decide, cond_true, cond_false, ↓bI_p, ↓bV_p, ↓bL_p, bIJ_s, bVJ_s, bLJ_s, ↓am_let_s, Nat.blt, Nat.ble, Bool.and_true, Bool.true_and, Bool.and_self, Int.cast_ofNat_Int, am_i_add, am_i_sub, am_i_mul, am_ok_i, am_i_cl, n_lt, n_le, n_eq, n_lt0, n_le0, n_0lt, n_0le, n_eq0, ne_eq, ↓reduceIte, not_true_eq_false, not_false_eq_true, and_true, true_and, and_false, false_and, eq_T, eq_F, lt_T, lt_F, le_T, le_F, qn_T, qn_F, and_F, b01_T, b01_F, e_isIn, Int32.toInt_toInt64, am_i_toInt, am_l_toInt, Int.toNat_natCast, Int.reduceToNat, Int.reduceAdd, Int.reduceSub, Int.reduceMul, Int.reduceNeg, Nat.reduceAdd, Nat.reduceMul, Nat.add_zero, Nat.mul_zero, Nat.zero_add, am_zb0, am_zb1, h5, h3', g5, e1, hw, g4, eo, a1]
    · have eE : enB b (w :: W) C o = (w :: W, C, o) := if_neg q
      rw [eE]
      refine ⟨I, fun d => ?_, h, fun _ _ _ => rfl⟩
      rw [sg_X12_qEndsPart_0]
      by_cases q1 : b < W.length + 1
      · have w60 : w < 60 := by omega
        simp (disch := first | assumption | omega) only [rM hm, ly_csm, ly_cam, ly_cf, ly_kd, ly_ln, ↓Bool.cond_decide, cond_true, cond_false, ↓bI_p, ↓bV_p, ↓bL_p, bIJ_s, bVJ_s, bLJ_s, ↓am_let_s, Nat.blt, Nat.ble, Bool.and_true, Bool.true_and, Bool.and_self, Int.cast_ofNat_Int, am_i_add, am_i_sub, am_i_mul, am_ok_i, am_i_cl, n_lt, n_le, n_eq, n_lt0, n_le0, n_0lt, n_0le, n_eq0, ne_eq, ↓reduceIte, not_true_eq_false, not_false_eq_true, and_true, true_and, and_false, false_and, eq_T, eq_F, lt_T, lt_F, le_T, le_F, qn_T, qn_F, and_F, b01_T, b01_F, e_isIn, Int32.toInt_toInt64, am_i_toInt, am_l_toInt, Int.toNat_natCast, Int.reduceToNat, Int.reduceAdd, Int.reduceSub, Int.reduceMul, Int.reduceNeg, Nat.reduceAdd, Nat.reduceMul, Nat.add_zero, Nat.mul_zero, Nat.zero_add, am_zb0, am_zb1, h5, h3', g5, e1, hw, sg_X12_qEndsPart_51]
      · simp (disch := first | assumption | omega) only [rM hm, ly_csm, ly_cam, ly_cf, ly_kd, ly_ln, ↓Bool.cond_decide, cond_true, cond_false, ↓bI_p, ↓bV_p, ↓bL_p, bIJ_s, bVJ_s, bLJ_s, ↓am_let_s, Nat.blt, Nat.ble, Bool.and_true, Bool.true_and, Bool.and_self, Int.cast_ofNat_Int, am_i_add, am_i_sub, am_i_mul, am_ok_i, am_i_cl, n_lt, n_le, n_eq, n_lt0, n_le0, n_0lt, n_0le, n_eq0, ne_eq, ↓reduceIte, not_true_eq_false, not_false_eq_true, and_true, true_and, and_false, false_and, eq_T, eq_F, lt_T, lt_F, le_T, le_F, qn_T, qn_F, and_F, b01_T, b01_F, e_isIn, Int32.toInt_toInt64, am_i_toInt, am_l_toInt, Int.toNat_natCast, Int.reduceToNat, Int.reduceAdd, Int.reduceSub, Int.reduceMul, Int.reduceNeg, Nat.reduceAdd, Nat.reduceMul, Nat.add_zero, Nat.mul_zero, Nat.zero_add, am_zb0, am_zb1, h5, h3', g5, sg_X12_qEndsPart_51]
end MQ
