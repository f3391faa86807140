/-! ===== what is asked of a text: error and place, or 0 and where it goes on ===== -/
def aW (T : Nat → Nat) (n p w : Nat) : Nat × Nat := if tW T n p = w then (0, tE T n p) else (1, tAt T n p)
def aS (T : Nat → Nat) (n p c : Nat) : Nat × Nat := if tSg T n p = c then (0, tE T n p) else (1, tAt T n p)
def aN (T : Nat → Nat) (n p lo hi : Nat) : Nat × Nat := if tK T n p = 2 then (if 4 < tN T n p then (1, tAt T n p + 4) else if tV T n p < lo ∨ hi < tV T n p then (2, tAt T n p) else (0, tE T n p)) else (1, tAt T n p)
def aM (T : Nat → Nat) (n p : Nat) : Nat × Nat := if tK T n p = 1 then (if 6 < tN T n p then (1, tAt T n p + 6) else if 0 ≤ tW T n p ∧ tW T n p < 26 then (1, tAt T n p) else (0, tE T n p)) else (1, tAt T n p)
def rdM (T : Nat → Nat) (n : Nat) (r : Nat × Nat) (I : tI) : Prop := (r.1 = 0 → mrX T n r.2 I) ∧ (r.1 ≠ 0 → I 64 5 = am_i r.1 ∧ I 64 6 = am_i r.2)
def mlC (q k : Nat) : Prop := q = 64 ∧ (k = 2 ∨ k = 4 ∨ k = 5 ∨ k = 6 ∨ k = 10 ∨ k = 37)
section MRD
variable {d : Nat} {J : tJ} {R : tR} {T : Nat → Nat} {n p : Nat} {I : tI}
theorem m_fail (hm : st_Rm R) {v w : Int32} (h5 : I 64 5 = am_i 0) : am_E (d + 1) 167 0 [(0, .ref 64), (1, .int v), (2, .int w)] [] (I, J, R, 138) = some (none, (am_up (am_up I 64 5 v) 64 6 w, J, R, 138)) := by
  rw [sg_X12_fail_0]
  simp (disch := first | assumption | omega) only [rM hm, ly_csm, ly_cam, ly_cf, ly_kd, ly_ln, ↓Bool.cond_decide, cond_true, cond_false, ↓bI_p, ↓bV_p, ↓bL_p, bIJ_s, bVJ_s, bLJ_s, ↓am_let_s, Nat.blt, Nat.ble, Bool.and_true, Bool.true_and, Bool.and_self, Int.cast_ofNat_Int, am_i_add, am_i_sub, am_i_mul, am_ok_i, am_i_cl, n_lt, n_le, n_eq, n_lt0, n_le0, n_0lt, n_0le, n_eq0, ne_eq, ↓reduceIte, not_true_eq_false, not_false_eq_true, and_true, true_and, and_false, false_and, eq_T, eq_F, lt_T, lt_F, le_T, le_F, qn_T, qn_F, and_F, b01_T, b01_F, e_isIn, Int32.toInt_toInt64, am_i_toInt, am_l_toInt, Int.toNat_natCast, Int.reduceToNat, Int.reduceAdd, Int.reduceSub, Int.reduceMul, Int.reduceNeg, Nat.reduceAdd, Nat.reduceMul, Nat.add_zero, Nat.mul_zero, Nat.zero_add, am_zb0, am_zb1, h5]
theorem fail_r {e pl : Nat} (he : e ≠ 0) : rdM T n (e, pl) (am_up (am_up I 64 5 (am_i e)) 64 6 (am_i pl)) := ⟨fun h => absurd h he, fun _ => ⟨by rw [am_up_o (by omega), am_up_e], am_up_e⟩⟩
theorem tW_1 {w : Nat} (h : tW T n p = w) : tK T n p = 1 := by
  unfold tW at h
  split at h
  · assumption
  · omega
theorem tSg_3 {c : Nat} (h : tSg T n p = c) : tK T n p = 3 := by
  unfold tSg at h
  split at h
  · assumption
  · omega
theorem tN_w {w : Nat} (hw : w < 32) (h : tW T n p = w) : tN T n p = (WL w).length := by
  have k := tW_1 h
  have e : tW T n p = wix (tL T n p) := if_pos k
  rw [e, wix_i hw] at h
  rw [← h]
  exact (rlS_l _ _).symm
theorem m_takes (hm : st_Rm R) (hT : txM T n I) (hp : p ≤ n) (hR : mrX T n p I) {q : Nat} (hq : isQ q = true) : ∃ I', am_E (d + 3) 172 0 [(0, .ref 64), (1, .ref q)] [] (I, J, R, 138) = some (some (.int (b01 (tW T n p = (wdQ q : Nat)))), (I', J, R, 138)) ∧ (tW T n p = (wdQ q : Nat) → mrX T n (tE T n p) I') ∧ (¬ tW T n p = (wdQ q : Nat) → I' = atP T n p I) ∧ ∀ a k, ¬ (a = 64 ∧ (k = 2 ∨ k = 4)) → I' a k = I a k := by
  have ih := fun d => m_isHere (d := d) (J := J) hm hT hp hR hq
  obtain ⟨q1, q2, q3, q4, q5, q6, q7⟩ := wq_f hq
  have k3 : Nat.ble 1 3 = true := rfl
  have k5 : Nat.ble 3 5 = true := rfl
  have a2 : atP T n p I 64 2 = am_i (tAt T n p) := atP_2
  by_cases c : tW T n p = (wdQ q : Nat)
  · have k := tW_1 c
    have tn := tN_w q6 c
    have eb := tE_b (T := T) hp
    have ee : (tAt T n p : Int) + ((WL (wdQ q)).length : Int) = (tE T n p : Int) := by rw [← tn]; unfold tN; omega
    have u2 : am_up (atP T n p I) 64 2 (am_i (tE T n p)) 64 2 = am_i (tE T n p) := am_up_e
    refine ⟨am_up (am_up (atP T n p I) 64 2 (am_i (tE T n p))) 64 4 (am_i (tE T n p)), ?_, fun _ => mrX_e (by rw [am_up_o (by omega), am_up_e]) (by rw [am_up_o (by omega), am_up_o (by omega), atP_o (by omega)]; exact hR.1) am_up_e (by rw [am_up_o (by omega), am_up_o (by omega), atP_o (by omega)]; exact hR.2.1) (gP_1 (Or.inl k) hp) (by rw [am_up_o (by omega), am_up_o (by omega), atP_o (by omega)]; exact mrX_6 hR), fun e => absurd c e, fun a k h => by rw [am_up_o (by omega), am_up_o (by omega), atP_o (by omega)]⟩
    rw [sg_X12_takes_0]
    simp (disch := first | assumption | omega) only [↓Bool.cond_decide, cond_true, cond_false, ↓am_let_s, ↓bI_p, bIJ_s, ↓bV_p, bVJ_s, ↓bL_p, bLJ_s, ly_cf, Bool.and_self, Bool.and_true, ih, b01_t c, q1, q2, q3, k3, k5, am_i_add, am_i_sub, am_i_mul, am_ok_i, am_i_cl, n_lt, n_le, n_eq, n_lt0, n_le0, n_0lt, n_0le, n_eq0, ne_eq, ↓reduceIte, not_true_eq_false, not_false_eq_true, and_true, true_and, and_false, false_and, eq_T, eq_F, lt_T, lt_F, le_T, le_F, qn_T, qn_F, and_F, b01_T, b01_F, e_isIn, Int32.toInt_toInt64, am_i_toInt, am_l_toInt, Int.toNat_natCast, Int.reduceToNat, Int.reduceAdd, Int.reduceSub, Int.reduceMul, Int.reduceNeg, Nat.reduceAdd, Nat.reduceMul, Nat.add_zero, Nat.mul_zero, Nat.zero_add, am_zb0, am_zb1, a2, ee, u2]
  · refine ⟨atP T n p I, ?_, fun e => absurd e c, fun _ => rfl, fun a k h => atP_o (by omega)⟩
    rw [sg_X12_takes_0]
    simp (disch := first | assumption | omega) only [↓Bool.cond_decide, cond_true, cond_false, ↓am_let_s, ↓bI_p, bIJ_s, ↓bV_p, bVJ_s, ↓bL_p, bLJ_s, ly_cf, Bool.and_self, Bool.and_true, ih, b01_f c, am_i_add, am_i_sub, am_i_mul, am_ok_i, am_i_cl, n_lt, n_le, n_eq, n_lt0, n_le0, n_0lt, n_0le, n_eq0, ne_eq, ↓reduceIte, not_true_eq_false, not_false_eq_true, and_true, true_and, and_false, false_and, eq_T, eq_F, lt_T, lt_F, le_T, le_F, qn_T, qn_F, and_F, b01_T, b01_F, e_isIn, Int32.toInt_toInt64, am_i_toInt, am_l_toInt, Int.toNat_natCast, Int.reduceToNat, Int.reduceAdd, Int.reduceSub, Int.reduceMul, Int.reduceNeg, Nat.reduceAdd, Nat.reduceMul, Nat.add_zero, Nat.mul_zero, Nat.zero_add, am_zb0, am_zb1]
theorem m_asks (hm : st_Rm R) (hT : txM T n I) (hp : p ≤ n) (hR : mrX T n p I) {q : Nat} (hq : isQ q = true) : ∃ I', am_E (d + 4) 173 0 [(0, .ref 64), (1, .ref q)] [] (I, J, R, 138) = some (none, (I', J, R, 138)) ∧ rdM T n (aW T n p (wdQ q)) I' ∧ ∀ a k, ¬ mlC a k → I' a k = I a k := by
  obtain ⟨I1, t1, t2, t3, t4⟩ := m_takes (d := d) (J := J) hm hT hp hR hq
  have h5 := hR.2.1
  by_cases c : tW T n p = (wdQ q : Nat)
  · refine ⟨I1, ?_, ?_, fun a k h => t4 a k (by unfold mlC at h; omega)⟩
    · rw [sg_X12_asks_0]
      simp (disch := first | assumption | omega) only [↓Bool.cond_decide, cond_true, cond_false, ↓am_let_s, ↓bI_p, bIJ_s, ↓bV_p, bVJ_s, ↓bL_p, bLJ_s, ly_cf, Bool.and_self, Bool.and_true, h5, t1, b01_t c, am_i_add, am_i_sub, am_i_mul, am_ok_i, am_i_cl, n_lt, n_le, n_eq, n_lt0, n_le0, n_0lt, n_0le, n_eq0, ne_eq, ↓reduceIte, not_true_eq_false, not_false_eq_true, and_true, true_and, and_false, false_and, eq_T, eq_F, lt_T, lt_F, le_T, le_F, qn_T, qn_F, and_F, b01_T, b01_F, e_isIn, Int32.toInt_toInt64, am_i_toInt, am_l_toInt, Int.toNat_natCast, Int.reduceToNat, Int.reduceAdd, Int.reduceSub, Int.reduceMul, Int.reduceNeg, Nat.reduceAdd, Nat.reduceMul, Nat.add_zero, Nat.mul_zero, Nat.zero_add, am_zb0, am_zb1, sg_X12_asks_24]
    · unfold aW
      rw [if_pos c]
      exact ⟨fun _ => t2 c, fun h => absurd rfl h⟩
  · have e1 := t3 c
    subst e1
    have fl := fun d => m_fail (d := d) (J := J) (I := atP T n p I) (v := am_i 1) (w := am_i (tAt T n p)) hm (by rw [atP_o (by omega)]; exact h5)
    have a2 : atP T n p I 64 2 = am_i (tAt T n p) := atP_2
    refine ⟨am_up (am_up (atP T n p I) 64 5 (am_i 1)) 64 6 (am_i (tAt T n p)), ?_, ?_, fun a k h => by unfold mlC at h; rw [am_up_o (by omega), am_up_o (by omega), atP_o (by omega)]⟩
    · rw [sg_X12_asks_0]
      simp (disch := first | assumption | omega) only [↓Bool.cond_decide, cond_true, cond_false, ↓am_let_s, ↓bI_p, bIJ_s, ↓bV_p, bVJ_s, ↓bL_p, bLJ_s, ly_cf, Bool.and_self, Bool.and_true, h5, t1, b01_f c, am_i_add, am_i_sub, am_i_mul, am_ok_i, am_i_cl, n_lt, n_le, n_eq, n_lt0, n_le0, n_0lt, n_0le, n_eq0, ne_eq, ↓reduceIte, not_true_eq_false, not_false_eq_true, and_true, true_and, and_false, false_and, eq_T, eq_F, lt_T, lt_F, le_T, le_F, qn_T, qn_F, and_F, b01_T, b01_F, e_isIn, Int32.toInt_toInt64, am_i_toInt, am_l_toInt, Int.toNat_natCast, Int.reduceToNat, Int.reduceAdd, Int.reduceSub, Int.reduceMul, Int.reduceNeg, Nat.reduceAdd, Nat.reduceMul, Nat.add_zero, Nat.mul_zero, Nat.zero_add, am_zb0, am_zb1, a2, fl, sg_X12_asks_24]
    · unfold aW
      rw [if_neg c]
      exact fail_r (e := 1) (by omega)
theorem m_takesSign (hm : st_Rm R) (hT : txM T n I) (hp : p ≤ n) (hR : mrX T n p I) {c : Nat} (hc : c < 256) (hl : ¬ lB c = true) (hd : ¬ dB c = true) : ∃ I', am_E (d + 2) 174 0 [(0, .ref 64), (1, .int (am_i c))] [] (I, J, R, 138) = some (some (.int (b01 (tSg T n p = c))), (I', J, R, 138)) ∧ (tSg T n p = c → mrX T n (tE T n p) I' ∧ I' 64 2 = am_i (tE T n p)) ∧ (¬ tSg T n p = c → I' = atP T n p I) ∧ ∀ a k, ¬ (a = 64 ∧ k = 2) → I' a k = I a k := by
  have lk := fun d => e_look (d := d) (J := J) hm hT hp hR
  have tb := tC_b (T := T) (n := n) (p := p) (fun k hk => (hT.2.1 k hk).1)
  have h5 := hR.2.1
  have a2 : atP T n p I 64 2 = am_i (tAt T n p) := atP_2
  have cs := tC_S (T := T) (n := n) (p := p) hl hd
  by_cases q : tSg T n p = c
  · have qc : tC T n p = c := cs.mpr q
    have k := tSg_3 q
    have eE := tE_3 k
    have ab := tAt_b (T := T) hp
    refine ⟨am_up (atP T n p I) 64 2 (am_i (tE T n p)), ?_, fun _ => ⟨?_, am_up_e⟩, fun h => absurd q h, fun a k h => by rw [am_up_o h, atP_o h]⟩
    · rw [sg_X12_takesSign_0, eE]
      simp (disch := first | assumption | omega) only [↓Bool.cond_decide, cond_true, cond_false, ↓am_let_s, ↓bI_p, bIJ_s, ↓bV_p, bVJ_s, ↓bL_p, bLJ_s, ly_cf, Bool.and_self, Bool.and_true, h5, lk, qc, am_i_add, am_i_sub, am_i_mul, am_ok_i, am_i_cl, n_lt, n_le, n_eq, n_lt0, n_le0, n_0lt, n_0le, n_eq0, ne_eq, ↓reduceIte, not_true_eq_false, not_false_eq_true, and_true, true_and, and_false, false_and, eq_T, eq_F, lt_T, lt_F, le_T, le_F, qn_T, qn_F, and_F, b01_T, b01_F, e_isIn, Int32.toInt_toInt64, am_i_toInt, am_l_toInt, Int.toNat_natCast, Int.reduceToNat, Int.reduceAdd, Int.reduceSub, Int.reduceMul, Int.reduceNeg, Nat.reduceAdd, Nat.reduceMul, Nat.add_zero, Nat.mul_zero, Nat.zero_add, am_zb0, am_zb1, a2, b01_t q, am_i_s]
    · obtain ⟨h3, h5, a, e, a1, a2, a3, a4, a5, a6, a7, a8⟩ := hR
      refine ⟨by rw [am_up_o (by omega), atP_o (by omega)]; exact h3, by rw [am_up_o (by omega), atP_o (by omega)]; exact h5, tE T n p, e, Nat.le_refl _, sp_ge _, a3, by omega, ?_, am_up_e, by rw [am_up_o (by omega), atP_o (by omega)]; exact a7, by rw [am_up_o (by omega), atP_o (by omega)]; exact a8⟩
      constructor
      · intro h; omega
      · intro h; exact absurd h (gP_3 k)
  · have qc : ¬ tC T n p = c := fun e => q (cs.mp e)
    refine ⟨atP T n p I, ?_, fun h => absurd h q, fun _ => rfl, fun a k h => atP_o h⟩
    rw [sg_X12_takesSign_0]
    simp (disch := first | assumption | omega) only [↓Bool.cond_decide, cond_true, cond_false, ↓am_let_s, ↓bI_p, bIJ_s, ↓bV_p, bVJ_s, ↓bL_p, bLJ_s, ly_cf, Bool.and_self, Bool.and_true, h5, lk, am_i_add, am_i_sub, am_i_mul, am_ok_i, am_i_cl, n_lt, n_le, n_eq, n_lt0, n_le0, n_0lt, n_0le, n_eq0, ne_eq, ↓reduceIte, not_true_eq_false, not_false_eq_true, and_true, true_and, and_false, false_and, eq_T, eq_F, lt_T, lt_F, le_T, le_F, qn_T, qn_F, and_F, b01_T, b01_F, e_isIn, Int32.toInt_toInt64, am_i_toInt, am_l_toInt, Int.toNat_natCast, Int.reduceToNat, Int.reduceAdd, Int.reduceSub, Int.reduceMul, Int.reduceNeg, Nat.reduceAdd, Nat.reduceMul, Nat.add_zero, Nat.mul_zero, Nat.zero_add, am_zb0, am_zb1, b01_f q, sg_X12_takesSign_15]
theorem m_asksSign (hm : st_Rm R) (hT : txM T n I) (hp : p ≤ n) (hR : mrX T n p I) {c : Nat} (hc : c < 256) (hl : ¬ lB c = true) (hd : ¬ dB c = true) : ∃ I', am_E (d + 3) 175 0 [(0, .ref 64), (1, .int (am_i c))] [] (I, J, R, 138) = some (none, (I', J, R, 138)) ∧ rdM T n (aS T n p c) I' ∧ ∀ a k, ¬ mlC a k → I' a k = I a k := by
  obtain ⟨I1, t1, t2, t3, t4⟩ := m_takesSign (d := d) (J := J) hm hT hp hR hc hl hd
  have h5 := hR.2.1
  by_cases q : tSg T n p = c
  · refine ⟨I1, ?_, ?_, fun a k h => t4 a k (by unfold mlC at h; omega)⟩
    · rw [sg_X12_asksSign_0]
      simp (disch := first | assumption | omega) only [↓Bool.cond_decide, cond_true, cond_false, ↓am_let_s, ↓bI_p, bIJ_s, ↓bV_p, bVJ_s, ↓bL_p, bLJ_s, ly_cf, Bool.and_self, Bool.and_true, h5, t1, b01_t q, am_i_add, am_i_sub, am_i_mul, am_ok_i, am_i_cl, n_lt, n_le, n_eq, n_lt0, n_le0, n_0lt, n_0le, n_eq0, ne_eq, ↓reduceIte, not_true_eq_false, not_false_eq_true, and_true, true_and, and_false, false_and, eq_T, eq_F, lt_T, lt_F, le_T, le_F, qn_T, qn_F, and_F, b01_T, b01_F, e_isIn, Int32.toInt_toInt64, am_i_toInt, am_l_toInt, Int.toNat_natCast, Int.reduceToNat, Int.reduceAdd, Int.reduceSub, Int.reduceMul, Int.reduceNeg, Nat.reduceAdd, Nat.reduceMul, Nat.add_zero, Nat.mul_zero, Nat.zero_add, am_zb0, am_zb1, sg_X12_asksSign_24]
    · unfold aS
      rw [if_pos q]
      exact ⟨fun _ => (t2 q).1, fun h => absurd rfl h⟩
  · have e1 := t3 q
    subst e1
    have fl := fun d => m_fail (d := d) (J := J) (I := atP T n p I) (v := am_i 1) (w := am_i (tAt T n p)) hm (by rw [atP_o (by omega)]; exact h5)
    have a2 : atP T n p I 64 2 = am_i (tAt T n p) := atP_2
    refine ⟨am_up (am_up (atP T n p I) 64 5 (am_i 1)) 64 6 (am_i (tAt T n p)), ?_, ?_, fun a k h => by unfold mlC at h; rw [am_up_o (by omega), am_up_o (by omega), atP_o (by omega)]⟩
    · rw [sg_X12_asksSign_0]
      simp (disch := first | assumption | omega) only [↓Bool.cond_decide, cond_true, cond_false, ↓am_let_s, ↓bI_p, bIJ_s, ↓bV_p, bVJ_s, ↓bL_p, bLJ_s, ly_cf, Bool.and_self, Bool.and_true, h5, t1, b01_f q, am_i_add, am_i_sub, am_i_mul, am_ok_i, am_i_cl, n_lt, n_le, n_eq, n_lt0, n_le0, n_0lt, n_0le, n_eq0, ne_eq, ↓reduceIte, not_true_eq_false, not_false_eq_true, and_true, true_and, and_false, false_and, eq_T, eq_F, lt_T, lt_F, le_T, le_F, qn_T, qn_F, and_F, b01_T, b01_F, e_isIn, Int32.toInt_toInt64, am_i_toInt, am_l_toInt, Int.toNat_natCast, Int.reduceToNat, Int.reduceAdd, Int.reduceSub, Int.reduceMul, Int.reduceNeg, Nat.reduceAdd, Nat.reduceMul, Nat.add_zero, Nat.mul_zero, Nat.zero_add, am_zb0, am_zb1, a2, fl, sg_X12_asksSign_24]
    · unfold aS
      rw [if_neg q]
      exact fail_r (e := 1) (by omega)
theorem nv_b {a : Nat} (hd : ∀ j, j < 4 → 48 ≤ T (a + j) → T (a + j) ≤ 57 → True) : ∀ j, (∀ i, i < j → 48 ≤ T (a + i) ∧ T (a + i) ≤ 57) → nvS T a j < 10 ^ j
  | 0, _ => Nat.zero_lt_one
  | j + 1, h => by
    have h1 := nv_b hd j (fun i hi => h i (by omega))
    have h2 := h j (by omega)
    show nvS T a j * 10 + (T (a + j) - 48) < 10 ^ (j + 1)
    rw [Nat.pow_succ]
    omega
theorem m_n49 (hm : st_Rm R) {a lo hi : Nat} {I0 : tI} (hT : txM T n I0) (h3 : I0 64 3 = am_i n) (h5 : I0 64 5 = am_i 0) (ha : a ≤ n) : ∀ (m k : Nat) (I : tI), min (spn dB T n a) (a + 4) = a + k + m → I = am_up I0 64 2 (am_i (a + k : Nat)) → am_E (d + 3) 176 49 [(0, .ref 64), (1, .int (am_i lo)), (2, .int (am_i hi)), (3, .int (am_i a)), (4, .int (am_i (nvS T a k)))] [] (I, J, R, 138) = if 4 < spn dB T n a - a then some (some (.int (am_i 0)), (am_up (am_up (am_up I0 64 2 (am_i (a + 4 : Nat))) 64 5 (am_i 1)) 64 6 (am_i (a + 4 : Nat)), J, R, 138)) else am_E (d + 3) 176 129 [(0, .ref 64), (1, .int (am_i lo)), (2, .int (am_i hi)), (3, .int (am_i a)), (4, .int (am_i (nvS T a (spn dB T n a - a))))] [] (am_up I0 64 2 (am_i (spn dB T n a)), J, R, 138)
  | 0, k, I, hk, hI => by
    have hT' := hT
    obtain ⟨t1, t3, t4⟩ := hT
    have ge := sp_ge (c := dB) (T := T) (n := n) a
    have le := sp_le (c := dB) (T := T) (n := n) ha
    have nd := sp_nd (c := dB) (T := T) (n := n) a
    have e2 : I 64 2 = am_i (a + k : Nat) := by rw [hI, am_up_e]
    have e3 : I 64 3 = am_i n := by rw [hI, am_up_o (by omega)]; exact h3
    have e5 : I 64 5 = am_i 0 := by rw [hI, am_up_o (by omega)]; exact h5
    have et : (((a + k : Nat) : Int)).toNat = a + k := by omega
    by_cases q : 4 < spn dB T n a - a
    · have hk4 : k = 4 := by omega
      subst hk4
      obtain ⟨k1, k2⟩ := sp_in (c := dB) (T := T) (n := n) (p := a) (q := a + 4) (by omega) (by omega)
      rw [dB_t] at k2
      obtain ⟨u1, u2⟩ := t3 (a + 4) k1
      have i5 : I 65 (a + 4) = am_i (T (a + 4)) := by rw [hI, am_up_o (by omega)]; exact u2
      have xd := fun d => e_mD (d := d) (c := (T (a + 4) : Int)) (M := (I, J, R, 138)) (by omega) (by omega)
      have nl' : 48 ≤ (T (a + 4) : Int) ∧ (T (a + 4) : Int) ≤ 57 := by omega
      have fl := fun d => m_fail (d := d) (J := J) (I := I) (v := am_i 1) (w := am_i (a + 4 : Nat)) hm e5
      have es : ((a + 4 : Nat) : Int) - (a : Int) = 4 := by omega
      rw [if_pos q, sg_X12_number_49, ← hI]
      simp (disch := first | assumption | omega) only [rM hm, ly_csm, ly_cam, ly_cf, ly_kd, ly_ln, ↓Bool.cond_decide, cond_true, cond_false, ↓bI_p, ↓bV_p, ↓bL_p, bIJ_s, bVJ_s, bLJ_s, ↓am_let_s, Nat.blt, Nat.ble, Bool.and_true, Bool.true_and, Bool.and_self, Int.cast_ofNat_Int, am_i_add, am_i_sub, am_i_mul, am_ok_i, am_i_cl, n_lt, n_le, n_eq, n_lt0, n_le0, n_0lt, n_0le, n_eq0, ne_eq, ↓reduceIte, not_true_eq_false, not_false_eq_true, and_true, true_and, and_false, false_and, eq_T, eq_F, lt_T, lt_F, le_T, le_F, qn_T, qn_F, and_F, b01_T, b01_F, e_isIn, Int32.toInt_toInt64, am_i_toInt, am_l_toInt, Int.toNat_natCast, Int.reduceToNat, Int.reduceAdd, Int.reduceSub, Int.reduceMul, Int.reduceNeg, Nat.reduceAdd, Nat.reduceMul, Nat.add_zero, Nat.mul_zero, Nat.zero_add, am_zb0, am_zb1, e2, e3, et, i5, xd, b01_t nl', es, fl]
    · have hk4 : spn dB T n a = a + k := by omega
      rw [if_neg q, show spn dB T n a - a = k by omega, hk4, ← hI, sg_X12_number_49]
      rw [hk4] at nd
      by_cases q2 : a + k < n
      · have nl : ¬ dB (T (a + k)) = true := fun e => nd ⟨q2, e⟩
        rw [dB_t] at nl
        obtain ⟨u1, u2⟩ := t3 (a + k) q2
        have i5 : I 65 (a + k) = am_i (T (a + k)) := by rw [hI, am_up_o (by omega)]; exact u2
        have xd := fun d => e_mD (d := d) (c := (T (a + k) : Int)) (M := (I, J, R, 138)) (by omega) (by omega)
        have nl' : ¬ (48 ≤ (T (a + k) : Int) ∧ (T (a + k) : Int) ≤ 57) := by omega
        simp (disch := first | assumption | omega) only [rM hm, ly_csm, ly_cam, ly_cf, ly_kd, ly_ln, ↓Bool.cond_decide, cond_true, cond_false, ↓bI_p, ↓bV_p, ↓bL_p, bIJ_s, bVJ_s, bLJ_s, ↓am_let_s, Nat.blt, Nat.ble, Bool.and_true, Bool.true_and, Bool.and_self, Int.cast_ofNat_Int, am_i_add, am_i_sub, am_i_mul, am_ok_i, am_i_cl, n_lt, n_le, n_eq, n_lt0, n_le0, n_0lt, n_0le, n_eq0, ne_eq, ↓reduceIte, not_true_eq_false, not_false_eq_true, and_true, true_and, and_false, false_and, eq_T, eq_F, lt_T, lt_F, le_T, le_F, qn_T, qn_F, and_F, b01_T, b01_F, e_isIn, Int32.toInt_toInt64, am_i_toInt, am_l_toInt, Int.toNat_natCast, Int.reduceToNat, Int.reduceAdd, Int.reduceSub, Int.reduceMul, Int.reduceNeg, Nat.reduceAdd, Nat.reduceMul, Nat.add_zero, Nat.mul_zero, Nat.zero_add, am_zb0, am_zb1, e2, e3, et, i5, xd, b01_f nl']
      · simp (disch := first | assumption | omega) only [rM hm, ly_csm, ly_cam, ly_cf, ly_kd, ly_ln, ↓Bool.cond_decide, cond_true, cond_false, ↓bI_p, ↓bV_p, ↓bL_p, bIJ_s, bVJ_s, bLJ_s, ↓am_let_s, Nat.blt, Nat.ble, Bool.and_true, Bool.true_and, Bool.and_self, Int.cast_ofNat_Int, am_i_add, am_i_sub, am_i_mul, am_ok_i, am_i_cl, n_lt, n_le, n_eq, n_lt0, n_le0, n_0lt, n_0le, n_eq0, ne_eq, ↓reduceIte, not_true_eq_false, not_false_eq_true, and_true, true_and, and_false, false_and, eq_T, eq_F, lt_T, lt_F, le_T, le_F, qn_T, qn_F, and_F, b01_T, b01_F, e_isIn, Int32.toInt_toInt64, am_i_toInt, am_l_toInt, Int.toNat_natCast, Int.reduceToNat, Int.reduceAdd, Int.reduceSub, Int.reduceMul, Int.reduceNeg, Nat.reduceAdd, Nat.reduceMul, Nat.add_zero, Nat.mul_zero, Nat.zero_add, am_zb0, am_zb1, e2, e3]
  | m + 1, k, I, hk, hI => by
    have ih := m_n49 hm (lo := lo) (hi := hi) hT h3 h5 ha m (k + 1) (am_up I 64 2 (am_i (a + (k + 1) : Nat))) (by omega) (by rw [hI, am_up_up])
    obtain ⟨t1, t3, t4⟩ := hT
    have e2 : I 64 2 = am_i (a + k : Nat) := by rw [hI, am_up_e]
    have e3 : I 64 3 = am_i n := by rw [hI, am_up_o (by omega)]; exact h3
    have et : (((a + k : Nat) : Int)).toNat = a + k := by omega
    obtain ⟨k1, k2⟩ := sp_in (c := dB) (T := T) (n := n) (p := a) (q := a + k) (by omega) (by omega)
    rw [dB_t] at k2
    obtain ⟨u1, u2⟩ := t3 (a + k) k1
    have i5 : I 65 (a + k) = am_i (T (a + k)) := by rw [hI, am_up_o (by omega)]; exact u2
    have xd := fun d => e_mD (d := d) (c := (T (a + k) : Int)) (M := (I, J, R, 138)) (by omega) (by omega)
    have nl' : 48 ≤ (T (a + k) : Int) ∧ (T (a + k) : Int) ≤ 57 := by omega
    have es : ((a + k : Nat) : Int) + 1 = ((a + (k + 1) : Nat) : Int) := by omega
    have ev : (10 : Int) * (nvS T a k : Int) + (T (a + k) : Int) - 48 = ((nvS T a (k + 1) : Nat) : Int) := by
      show _ = ((nvS T a k * 10 + (T (a + k) - 48) : Nat) : Int)
      omega
    have ek : ((a + k : Nat) : Int) - (a : Int) = (k : Int) := by omega
    have k4 : k < 4 := by omega
    rw [← ih, sg_X12_number_49]
    simp (disch := first | assumption | omega) only [rM hm, ly_csm, ly_cam, ly_cf, ly_kd, ly_ln, ↓Bool.cond_decide, cond_true, cond_false, ↓bI_p, ↓bV_p, ↓bL_p, bIJ_s, bVJ_s, bLJ_s, ↓am_let_s, Nat.blt, Nat.ble, Bool.and_true, Bool.true_and, Bool.and_self, Int.cast_ofNat_Int, am_i_add, am_i_sub, am_i_mul, am_ok_i, am_i_cl, n_lt, n_le, n_eq, n_lt0, n_le0, n_0lt, n_0le, n_eq0, ne_eq, ↓reduceIte, not_true_eq_false, not_false_eq_true, and_true, true_and, and_false, false_and, eq_T, eq_F, lt_T, lt_F, le_T, le_F, qn_T, qn_F, and_F, b01_T, b01_F, e_isIn, Int32.toInt_toInt64, am_i_toInt, am_l_toInt, Int.toNat_natCast, Int.reduceToNat, Int.reduceAdd, Int.reduceSub, Int.reduceMul, Int.reduceNeg, Nat.reduceAdd, Nat.reduceMul, Nat.add_zero, Nat.mul_zero, Nat.zero_add, am_zb0, am_zb1, e2, e3, et, i5, xd, b01_t nl', ek, ev, es]
theorem m_number (hm : st_Rm R) (hT : txM T n I) (hp : p ≤ n) (hR : mrX T n p I) {lo hi : Nat} (hlo : lo ≤ 10000) (hhi : hi ≤ 10000) : ∃ I', am_E (d + 3) 176 0 [(0, .ref 64), (1, .int (am_i lo)), (2, .int (am_i hi))] [] (I, J, R, 138) = some (some (.int (am_i (if tK T n p = 2 ∧ tN T n p ≤ 4 then tV T n p else 0 : Nat))), (I', J, R, 138)) ∧ rdM T n (aN T n p lo hi) I' ∧ (tK T n p = 2 ∧ tN T n p ≤ 4 → I' 64 10 = am_i (tAt T n p)) ∧ ∀ a k, ¬ mlC a k → I' a k = I a k := by
  have lk := fun d => e_look (d := d) (J := J) hm hT hp hR
  have n1 := hT.1
  have tb := tC_b (T := T) (n := n) (p := p) (fun k hk => (hT.2.1 k hk).1)
  have h5 : I 64 5 = am_i 0 := hR.2.1
  have xd := fun d => e_mD (d := d) (c := tC T n p) (M := (atP T n p I, J, R, 138)) tb.1 tb.2
  have hTa := txM_a (p := p) hT
  have ge := gl_e hT.1 hp hR
  have ab := tAt_b (T := T) hp
  have a2 : atP T n p I 64 2 = am_i (tAt T n p) := atP_2
  rw [a2] at ge
  have a5 : atP T n p I 64 5 = am_i 0 := by rw [atP_o (by omega)]; exact h5
  by_cases k2 : tK T n p = 2
  · obtain ⟨b1, b2, b3⟩ := tK_2.mp k2
    have ec : tC T n p = (T (tAt T n p) : Int) := if_pos b1
    have l1 : 48 ≤ tC T n p ∧ tC T n p ≤ 57 := by rw [dB_t] at b2; rw [ec]; omega
    have g' : (am_i (tAt T n p : Int) = atP T n p I 64 4) = False := by rw [ge]; exact eq_false b3
    have e3 : atP T n p I 64 3 = am_i n := by rw [atP_o (by omega)]; exact hR.1
    have eE := tE_2 k2
    have hN : tN T n p = spn dB T n (tAt T n p) - tAt T n p := by unfold tN; rw [eE]
    have sg := sp_ge (c := dB) (T := T) (n := n) (tAt T n p)
    have w49 := m_n49 (d := d) (J := J) (lo := lo) (hi := hi) hm hTa e3 a5 ab.2 (min (spn dB T n (tAt T n p)) (tAt T n p + 4) - tAt T n p) 0 (atP T n p I) (by omega) (by rw [Nat.add_zero]; exact (am_up_s a2).symm)
    have w49' : am_E (d + 3) 176 49 [(0, .ref 64), (1, .int (am_i lo)), (2, .int (am_i hi)), (3, .int (am_i (tAt T n p))), (4, .int (am_i 0))] [] (atP T n p I, J, R, 138) = _ := w49
    rw [← hN, ← eE] at w49'
    have hd : ∀ i, i < tN T n p → 48 ≤ T (tAt T n p + i) ∧ T (tAt T n p + i) ≤ 57 := fun i hi' => by
      obtain ⟨-, k⟩ := sp_in (c := dB) (T := T) (n := n) (p := tAt T n p) (q := tAt T n p + i) (by omega) (by omega)
      exact dB_t.mp k
    by_cases q4 : 4 < tN T n p
    · rw [if_pos q4] at w49'
      refine ⟨am_up (am_up (am_up (atP T n p I) 64 2 (am_i (tAt T n p + 4 : Nat))) 64 5 (am_i 1)) 64 6 (am_i (tAt T n p + 4 : Nat)), ?_, ?_, fun h => by omega, fun a k h => ?_⟩
      · rw [if_neg (by omega), sg_X12_number_0]
        simp (disch := first | assumption | omega) only [↓Bool.cond_decide, cond_true, cond_false, ↓am_let_s, ↓bI_p, bIJ_s, ↓bV_p, bVJ_s, ↓bL_p, bLJ_s, ly_cf, Bool.and_self, Bool.and_true, h5, lk, xd, b01_t l1, am_i_add, am_i_sub, am_i_mul, am_ok_i, am_i_cl, n_lt, n_le, n_eq, n_lt0, n_le0, n_0lt, n_0le, n_eq0, ne_eq, ↓reduceIte, not_true_eq_false, not_false_eq_true, and_true, true_and, and_false, false_and, eq_T, eq_F, lt_T, lt_F, le_T, le_F, qn_T, qn_F, and_F, b01_T, b01_F, e_isIn, Int32.toInt_toInt64, am_i_toInt, am_l_toInt, Int.toNat_natCast, Int.reduceToNat, Int.reduceAdd, Int.reduceSub, Int.reduceMul, Int.reduceNeg, Nat.reduceAdd, Nat.reduceMul, Nat.add_zero, Nat.mul_zero, Nat.zero_add, am_zb0, am_zb1, a2, g', w49']
        rfl
      · unfold aN
        rw [if_pos k2, if_pos q4]
        exact fail_r (e := 1) (by omega)
      · unfold mlC at h
        rw [am_up_o (by omega), am_up_o (by omega), am_up_o (by omega), atP_o (by omega)]
    · rw [if_neg q4] at w49'
      have eV : tV T n p = nvS T (tAt T n p) (tN T n p) := by unfold tV; rw [show min 4 (tN T n p) = tN T n p by omega]
      have vb : tV T n p < 10000 := by
        rw [eV]
        exact Nat.lt_of_lt_of_le (nv_b (fun _ _ _ _ => trivial) (tN T n p) hd) (Nat.pow_le_pow_right (n := 10) (by omega) (show tN T n p ≤ 4 by omega))
      rw [← eV] at w49'
      have up2 : am_up (atP T n p I) 64 2 (am_i (tE T n p)) 64 2 = am_i (tE T n p) := am_up_e
      have J4 : ∀ q k, ¬ mlC q k → am_up (am_up (am_up (atP T n p I) 64 2 (am_i (tE T n p))) 64 4 (am_i (tE T n p))) 64 10 (am_i (tAt T n p)) q k = I q k := fun q k h => by
        unfold mlC at h
        rw [am_up_o (by omega), am_up_o (by omega), am_up_o (by omega), atP_o (by omega)]
      have J5 : am_up (am_up (am_up (atP T n p I) 64 2 (am_i (tE T n p))) 64 4 (am_i (tE T n p))) 64 10 (am_i (tAt T n p)) 64 5 = am_i 0 := by rw [am_up_o (by omega), am_up_o (by omega), am_up_o (by omega)]; exact a5
      have Jr : mrX T n (tE T n p) (am_up (am_up (am_up (atP T n p I) 64 2 (am_i (tE T n p))) 64 4 (am_i (tE T n p))) 64 10 (am_i (tAt T n p))) := mrX_e (by rw [am_up_o (by omega), am_up_o (by omega), am_up_e]) (by rw [am_up_o (by omega), am_up_o (by omega), am_up_o (by omega)]; exact e3) (by rw [am_up_o (by omega), am_up_e]) J5 (gP_1 (Or.inr k2) hp) (by rw [am_up_o (by omega), am_up_o (by omega), am_up_o (by omega), atP_o (by omega)]; exact mrX_6 hR)
      have J10 : am_up (am_up (am_up (atP T n p I) 64 2 (am_i (tE T n p))) 64 4 (am_i (tE T n p))) 64 10 (am_i (tAt T n p)) 64 10 = am_i (tAt T n p) := am_up_e
      have f129 : am_E (d + 3) 176 129 [(0, .ref 64), (1, .int (am_i lo)), (2, .int (am_i hi)), (3, .int (am_i (tAt T n p))), (4, .int (am_i (tV T n p)))] [] (am_up (atP T n p I) 64 2 (am_i (tE T n p)), J, R, 138) = some (some (.int (am_i (tV T n p))), ((if tV T n p < lo ∨ hi < tV T n p then am_up (am_up (am_up (am_up (am_up (atP T n p I) 64 2 (am_i (tE T n p))) 64 4 (am_i (tE T n p))) 64 10 (am_i (tAt T n p))) 64 5 (am_i 2)) 64 6 (am_i (tAt T n p)) else am_up (am_up (am_up (atP T n p I) 64 2 (am_i (tE T n p))) 64 4 (am_i (tE T n p))) 64 10 (am_i (tAt T n p))), J, R, 138)) := by
        rw [sg_X12_number_129]
        simp only [↓Bool.cond_decide, cond_true, cond_false, ↓am_let_s, ↓bI_p, bIJ_s, ↓bV_p, bVJ_s, ↓bL_p, bLJ_s, ly_cf, Bool.and_self, Bool.and_true, up2]
        generalize am_up (am_up (am_up (atP T n p I) 64 2 (am_i (tE T n p))) 64 4 (am_i (tE T n p))) 64 10 (am_i (tAt T n p)) = I9 at *
        have fl := fun d => m_fail (d := d) (J := J) (I := I9) (v := am_i 2) (w := am_i (tAt T n p)) hm J5
        by_cases c : tV T n p < lo ∨ hi < tV T n p
        · have c' : ¬ ((lo : Int) ≤ (tV T n p : Int) ∧ (tV T n p : Int) ≤ (hi : Int)) := by omega
          rw [if_pos c]
          simp (disch := first | assumption | omega) only [rM hm, ly_csm, ly_cam, ly_cf, ly_kd, ly_ln, ↓Bool.cond_decide, cond_true, cond_false, ↓bI_p, ↓bV_p, ↓bL_p, bIJ_s, bVJ_s, bLJ_s, ↓am_let_s, Nat.blt, Nat.ble, Bool.and_true, Bool.true_and, Bool.and_self, Int.cast_ofNat_Int, am_i_add, am_i_sub, am_i_mul, am_ok_i, am_i_cl, n_lt, n_le, n_eq, n_lt0, n_le0, n_0lt, n_0le, n_eq0, ne_eq, ↓reduceIte, not_true_eq_false, not_false_eq_true, and_true, true_and, and_false, false_and, eq_T, eq_F, lt_T, lt_F, le_T, le_F, qn_T, qn_F, and_F, b01_T, b01_F, e_isIn, Int32.toInt_toInt64, am_i_toInt, am_l_toInt, Int.toNat_natCast, Int.reduceToNat, Int.reduceAdd, Int.reduceSub, Int.reduceMul, Int.reduceNeg, Nat.reduceAdd, Nat.reduceMul, Nat.add_zero, Nat.mul_zero, Nat.zero_add, am_zb0, am_zb1, fl, sg_X12_number_161]
        · rw [if_neg c]
          simp (disch := first | assumption | omega) only [rM hm, ly_csm, ly_cam, ly_cf, ly_kd, ly_ln, ↓Bool.cond_decide, cond_true, cond_false, ↓bI_p, ↓bV_p, ↓bL_p, bIJ_s, bVJ_s, bLJ_s, ↓am_let_s, Nat.blt, Nat.ble, Bool.and_true, Bool.true_and, Bool.and_self, Int.cast_ofNat_Int, am_i_add, am_i_sub, am_i_mul, am_ok_i, am_i_cl, n_lt, n_le, n_eq, n_lt0, n_le0, n_0lt, n_0le, n_eq0, ne_eq, ↓reduceIte, not_true_eq_false, not_false_eq_true, and_true, true_and, and_false, false_and, eq_T, eq_F, lt_T, lt_F, le_T, le_F, qn_T, qn_F, and_F, b01_T, b01_F, e_isIn, Int32.toInt_toInt64, am_i_toInt, am_l_toInt, Int.toNat_natCast, Int.reduceToNat, Int.reduceAdd, Int.reduceSub, Int.reduceMul, Int.reduceNeg, Nat.reduceAdd, Nat.reduceMul, Nat.add_zero, Nat.mul_zero, Nat.zero_add, am_zb0, am_zb1, sg_X12_number_161]
      refine ⟨if tV T n p < lo ∨ hi < tV T n p then am_up (am_up (am_up (am_up (am_up (atP T n p I) 64 2 (am_i (tE T n p))) 64 4 (am_i (tE T n p))) 64 10 (am_i (tAt T n p))) 64 5 (am_i 2)) 64 6 (am_i (tAt T n p)) else am_up (am_up (am_up (atP T n p I) 64 2 (am_i (tE T n p))) 64 4 (am_i (tE T n p))) 64 10 (am_i (tAt T n p)), ?_, ?_, fun _ => ?_, fun a k h => ?_⟩
      · rw [if_pos ⟨k2, by omega⟩, sg_X12_number_0]
        simp (disch := first | assumption | omega) only [↓Bool.cond_decide, cond_true, cond_false, ↓am_let_s, ↓bI_p, bIJ_s, ↓bV_p, bVJ_s, ↓bL_p, bLJ_s, ly_cf, Bool.and_self, Bool.and_true, h5, lk, xd, b01_t l1, am_i_add, am_i_sub, am_i_mul, am_ok_i, am_i_cl, n_lt, n_le, n_eq, n_lt0, n_le0, n_0lt, n_0le, n_eq0, ne_eq, ↓reduceIte, not_true_eq_false, not_false_eq_true, and_true, true_and, and_false, false_and, eq_T, eq_F, lt_T, lt_F, le_T, le_F, qn_T, qn_F, and_F, b01_T, b01_F, e_isIn, Int32.toInt_toInt64, am_i_toInt, am_l_toInt, Int.toNat_natCast, Int.reduceToNat, Int.reduceAdd, Int.reduceSub, Int.reduceMul, Int.reduceNeg, Nat.reduceAdd, Nat.reduceMul, Nat.add_zero, Nat.mul_zero, Nat.zero_add, am_zb0, am_zb1, a2, g', w49', f129]
      · unfold aN
        rw [if_pos k2, if_neg q4]
        by_cases c : tV T n p < lo ∨ hi < tV T n p
        · rw [if_pos c, if_pos c]
          exact fail_r (e := 2) (by omega)
        · rw [if_neg c, if_neg c]
          exact ⟨fun _ => Jr, fun h => absurd rfl h⟩
      · split
        · rw [am_up_o (by omega), am_up_o (by omega)]; exact J10
        · exact J10
      · have h' := h
        unfold mlC at h'
        split
        · rw [am_up_o (by omega), am_up_o (by omega)]; exact J4 a k h
        · exact J4 a k h
  · have fl := fun d => m_fail (d := d) (J := J) (I := atP T n p I) (v := am_i 1) (w := am_i (tAt T n p)) hm a5
    have f30 : ∀ d, am_E (d + 2) 176 30 [(0, .ref 64)] [] (atP T n p I, J, R, 138) = some (some (.int (am_i 0)), (am_up (am_up (atP T n p I) 64 5 (am_i 1)) 64 6 (am_i (tAt T n p)), J, R, 138)) := fun d => by
      rw [sg_X12_number_30]
      simp (disch := first | assumption | omega) only [↓Bool.cond_decide, cond_true, cond_false, ↓am_let_s, ↓bI_p, bIJ_s, ↓bV_p, bVJ_s, ↓bL_p, bLJ_s, ly_cf, Bool.and_self, Bool.and_true, a2, fl]
    refine ⟨am_up (am_up (atP T n p I) 64 5 (am_i 1)) 64 6 (am_i (tAt T n p)), ?_, ?_, fun h => absurd h.1 k2, fun a k h => by unfold mlC at h; rw [am_up_o (by omega), am_up_o (by omega), atP_o (by omega)]⟩
    · rw [if_neg (fun h => k2 h.1), sg_X12_number_0]
      by_cases l1 : 48 ≤ tC T n p ∧ tC T n p ≤ 57
      · have b1 : tAt T n p < n := by
          by_cases c : tAt T n p < n
          · exact c
          · have : tC T n p = -1 := if_neg c
            omega
        have ec : tC T n p = (T (tAt T n p) : Int) := if_pos b1
        have b2 : dB (T (tAt T n p)) = true := by rw [dB_t]; omega
        have b3 : tGl T p (tAt T n p) = true := by
          by_cases c : tGl T p (tAt T n p) = true
          · exact c
          · exact absurd (tK_2.mpr ⟨b1, b2, c⟩) k2
        have g' : (am_i (tAt T n p : Int) = atP T n p I 64 4) = True := by rw [ge]; exact eq_true b3
        simp (disch := first | assumption | omega) only [↓Bool.cond_decide, cond_true, cond_false, ↓am_let_s, ↓bI_p, bIJ_s, ↓bV_p, bVJ_s, ↓bL_p, bLJ_s, ly_cf, Bool.and_self, Bool.and_true, h5, lk, xd, b01_t l1, am_i_add, am_i_sub, am_i_mul, am_ok_i, am_i_cl, n_lt, n_le, n_eq, n_lt0, n_le0, n_0lt, n_0le, n_eq0, ne_eq, ↓reduceIte, not_true_eq_false, not_false_eq_true, and_true, true_and, and_false, false_and, eq_T, eq_F, lt_T, lt_F, le_T, le_F, qn_T, qn_F, and_F, b01_T, b01_F, e_isIn, Int32.toInt_toInt64, am_i_toInt, am_l_toInt, Int.toNat_natCast, Int.reduceToNat, Int.reduceAdd, Int.reduceSub, Int.reduceMul, Int.reduceNeg, Nat.reduceAdd, Nat.reduceMul, Nat.add_zero, Nat.mul_zero, Nat.zero_add, am_zb0, am_zb1, a2, g', f30]
        rfl
      · simp (disch := first | assumption | omega) only [↓Bool.cond_decide, cond_true, cond_false, ↓am_let_s, ↓bI_p, bIJ_s, ↓bV_p, bVJ_s, ↓bL_p, bLJ_s, ly_cf, Bool.and_self, Bool.and_true, h5, lk, xd, b01_f l1, am_i_add, am_i_sub, am_i_mul, am_ok_i, am_i_cl, n_lt, n_le, n_eq, n_lt0, n_le0, n_0lt, n_0le, n_eq0, ne_eq, ↓reduceIte, not_true_eq_false, not_false_eq_true, and_true, true_and, and_false, false_and, eq_T, eq_F, lt_T, lt_F, le_T, le_F, qn_T, qn_F, and_F, b01_T, b01_F, e_isIn, Int32.toInt_toInt64, am_i_toInt, am_l_toInt, Int.toNat_natCast, Int.reduceToNat, Int.reduceAdd, Int.reduceSub, Int.reduceMul, Int.reduceNeg, Nat.reduceAdd, Nat.reduceMul, Nat.add_zero, Nat.mul_zero, Nat.zero_add, am_zb0, am_zb1, f30]
        rfl
    · unfold aN
      rw [if_neg k2]
      exact fail_r (e := 1) (by omega)
end MRD
