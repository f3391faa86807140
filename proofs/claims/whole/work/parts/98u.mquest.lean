/-! ===== a question: the reference ===== -/
section MQ2
variable {d : Nat} {I : tI} {J : tJ} {R : tR} {b last wd nb n : Nat} {nt wf : Nat → Nat} {fm : Nat → List tok} {s : bt} {v u : Nat}
theorem m_carriedW (hm : st_Rm R) (hb6 : b < 6) (hX : cxM last wd nb nt wf fm I) (h1 : s.mi ≤ last) (h2 : s.ti ≤ 99) (h3 : s.ro ≤ 99) (e1 : I 103 (1 + 11 * b) = am_i s.mi) (e2 : I 103 (2 + 11 * b) = am_i s.ti) (e3 : I 103 (3 + 11 * b) = am_i s.ro) (hv : v < 8) (hu : u ≤ 9) : Wp (fun r M => ∃ I' J', r = some (.int (am_i (rcS wf fm s v u))) ∧ M = (I', J', R, 138) ∧ fr mS I I' ∧ frJ J J' ∧ (I 64 55 = am_i u → I' 64 55 = am_i u)) (am_E (d + 4) 207 0 [(0, .ref 64), (1, .int (am_i b)), (2, .int (am_i v)), (3, .int (am_i u))] [] (I, J, R, 138)) := by
  have hl := hX.2.1
  have w2 := hX.2.2.2.2.2.2.2.1 s.mi (by omega) v hv
  have w4 : wf s.mi / 2 ^ v % 2 < 2 := Nat.mod_lt _ (by decide)
  have t3 := fun d => e_mileOf (d := d) (I := I) (J := J) (b := (b : Int)) hm (by omega) (by omega)
  rw [Int.toNat_natCast] at t3
  have n1 : ((488 : Int) + 8 * (s.mi : Int) + (v : Int)).toNat = 488 + 8 * s.mi + v := by omega
  have eb := enS_b (v := v) (ti := s.ti) (ro := s.ro) (mi := s.mi) (u := u) (wt := 0) (by omega) h2 h3 (by omega) hu (by omega) (by omega)
  have vb := vl_ok (hX.2.2.2.2.2.2.2.2 0 (by decide)).2 eb
  rw [sg_X12_carriedBy_0]
  by_cases q : wf s.mi / 2 ^ v % 2 = 1
  · simp (disch := first | assumption | omega) only [rM hm, ly_csm, ly_cam, ly_cf, ly_kd, ly_ln, ↓Bool.cond_decide, cond_true, cond_false, ↓bI_p, ↓bV_p, ↓bL_p, bIJ_s, bVJ_s, bLJ_s, ↓am_let_s, Nat.blt, Nat.ble, Bool.and_true, Bool.true_and, Bool.and_self, Int.cast_ofNat_Int, am_i_add, am_i_sub, am_i_mul, am_ok_i, am_i_cl, n_lt, n_le, n_eq, n_lt0, n_le0, n_0lt, n_0le, n_eq0, ne_eq, ↓reduceIte, not_true_eq_false, not_false_eq_true, and_true, true_and, and_false, false_and, eq_T, eq_F, lt_T, lt_F, le_T, le_F, qn_T, qn_F, and_F, b01_T, b01_F, e_isIn, Int32.toInt_toInt64, am_i_toInt, am_l_toInt, Int.toNat_natCast, Int.reduceToNat, Int.reduceAdd, Int.reduceSub, Int.reduceMul, Int.reduceNeg, Nat.reduceAdd, Nat.reduceMul, Nat.add_zero, Nat.mul_zero, Nat.zero_add, am_zb0, am_zb1, t3, e1, n1, w2, q]
    exact Wp_r ⟨I, J, by unfold rcS; rw [if_pos q], rfl, fr_r _ _, frJ_r _, fun h => h⟩
  · have q0 : wf s.mi / 2 ^ v % 2 = 0 := by omega
    have o1 : ∀ q k, ¬ (q = 64 ∧ (k = 54 ∨ k = 55)) → am_up (am_up I 64 54 (am_i v)) 64 55 (am_i u) q k = I q k := fun q k h => by
      rw [am_up_o (by omega), am_up_o (by omega)]
    rcases (hX.2.2.2.2.2.2.2.2 0 (by decide)).1 with ⟨hn, hd⟩ | ⟨a, a1, a2, a3, a4⟩
    · have hn' : I 100 3 = am_i (-1) := hn
      have z : rcS wf fm s v u = 1 := by
        unfold rcS
        rw [if_neg q, hd]
        rfl
      simp (disch := first | assumption | omega) only [rM hm, ly_csm, ly_cam, ly_cf, ly_kd, ly_ln, ↓Bool.cond_decide, cond_true, cond_false, ↓bI_p, ↓bV_p, ↓bL_p, bIJ_s, bVJ_s, bLJ_s, ↓am_let_s, Nat.blt, Nat.ble, Bool.and_true, Bool.true_and, Bool.and_self, Int.cast_ofNat_Int, am_i_add, am_i_sub, am_i_mul, am_ok_i, am_i_cl, n_lt, n_le, n_eq, n_lt0, n_le0, n_0lt, n_0le, n_eq0, ne_eq, ↓reduceIte, not_true_eq_false, not_false_eq_true, and_true, true_and, and_false, false_and, eq_T, eq_F, lt_T, lt_F, le_T, le_F, qn_T, qn_F, and_F, b01_T, b01_F, e_isIn, Int32.toInt_toInt64, am_i_toInt, am_l_toInt, Int.toNat_natCast, Int.reduceToNat, Int.reduceAdd, Int.reduceSub, Int.reduceMul, Int.reduceNeg, Nat.reduceAdd, Nat.reduceMul, Nat.add_zero, Nat.mul_zero, Nat.zero_add, am_zb0, am_zb1, t3, e1, n1, w2, q0, am_up_o, hn', lc_ge, lc_le, l_toi]
      exact Wp_r ⟨_, J, by rw [z], rfl, fun q k h => o1 q k (by have := mS_f.mp h; omega), frJ_r _, fun _ => am_up_e⟩
    · have a2' : I 100 3 = am_i a := a2
      simp (disch := first | assumption | omega) only [rM hm, ly_csm, ly_cam, ly_cf, ly_kd, ly_ln, ↓Bool.cond_decide, cond_true, cond_false, ↓bI_p, ↓bV_p, ↓bL_p, bIJ_s, bVJ_s, bLJ_s, ↓am_let_s, Nat.blt, Nat.ble, Bool.and_true, Bool.true_and, Bool.and_self, Int.cast_ofNat_Int, am_i_add, am_i_sub, am_i_mul, am_ok_i, am_i_cl, n_lt, n_le, n_eq, n_lt0, n_le0, n_0lt, n_0le, n_eq0, ne_eq, ↓reduceIte, not_true_eq_false, not_false_eq_true, and_true, true_and, and_false, false_and, eq_T, eq_F, lt_T, lt_F, le_T, le_F, qn_T, qn_F, and_F, b01_T, b01_F, e_isIn, Int32.toInt_toInt64, am_i_toInt, am_l_toInt, Int.toNat_natCast, Int.reduceToNat, Int.reduceAdd, Int.reduceSub, Int.reduceMul, Int.reduceNeg, Nat.reduceAdd, Nat.reduceMul, Nat.add_zero, Nat.mul_zero, Nat.zero_add, am_zb0, am_zb1, ↓bL_p, t3, e1, n1, w2, q0, am_up_o, a2']
      refine Wp_L (m_tell (f := 0) (en := enS v s.ti s.ro s.mi u 0) hm hb6 (by decide) (cxM_c (fun q k k1 k2 => o1 q k (by omega)) hX) ⟨?_, ?_, ?_, ?_, ?_, fun h => by cases h⟩ eb ?_) ?_
      · rw [am_up_o (by omega), am_up_e]; rfl
      · rw [o1 _ _ (by omega), e2]; rfl
      · rw [o1 _ _ (by omega), e3]; rfl
      · rw [o1 _ _ (by omega), e1]; rfl
      · rw [am_up_e]; rfl
      · rw [o1 _ _ (by omega), a2, ne_eq, n_eq (by omega) (by omega) (by omega) (by omega)]
        omega
      · rintro _ _ ⟨I', J', rfl, rfl, hf, hj⟩
        refine ⟨_, rfl, ?_⟩
        have fin : fr mS I I' := fun q k h => by
          have h' := mS_f.mp h
          rw [hf q k (mS2_f.mpr (by omega)), o1 q k (by omega)]
        have z : rcS wf fm s v u = clZ (-9) 9 (vl (enS v s.ti s.ro s.mi u 0) e0 (fm 0)) := by
          unfold rcS
          rw [if_neg q]
        unfold clZ at z
        by_cases c1 : vl (enS v s.ti s.ro s.mi u 0) e0 (fm 0) < -9
        · rw [if_pos c1] at z
          simp (disch := first | assumption | omega) only [am_i_add, am_i_sub, am_i_mul, am_ok_i, am_i_cl, n_lt, n_le, n_eq, n_lt0, n_le0, n_0lt, n_0le, n_eq0, ne_eq, ↓reduceIte, not_true_eq_false, not_false_eq_true, and_true, true_and, and_false, false_and, eq_T, eq_F, lt_T, lt_F, le_T, le_F, qn_T, qn_F, and_F, b01_T, b01_F, e_isIn, Int32.toInt_toInt64, am_i_toInt, am_l_toInt, Int.toNat_natCast, Int.reduceToNat, Int.reduceAdd, Int.reduceSub, Int.reduceMul, Int.reduceNeg, Nat.reduceAdd, Nat.reduceMul, Nat.add_zero, Nat.mul_zero, Nat.zero_add, am_zb0, am_zb1, ↓Bool.cond_decide, lc_ge, lc_le, l_toi]
          exact Wp_r ⟨I', J', by rw [z], rfl, fin, hj, fun _ => by rw [hf 64 55 (mS2_f.mpr (by omega)), am_up_e]⟩
        · rw [if_neg c1] at z
          by_cases c2 : 9 < vl (enS v s.ti s.ro s.mi u 0) e0 (fm 0)
          · rw [if_pos c2] at z
            simp (disch := first | assumption | omega) only [am_i_add, am_i_sub, am_i_mul, am_ok_i, am_i_cl, n_lt, n_le, n_eq, n_lt0, n_le0, n_0lt, n_0le, n_eq0, ne_eq, ↓reduceIte, not_true_eq_false, not_false_eq_true, and_true, true_and, and_false, false_and, eq_T, eq_F, lt_T, lt_F, le_T, le_F, qn_T, qn_F, and_F, b01_T, b01_F, e_isIn, Int32.toInt_toInt64, am_i_toInt, am_l_toInt, Int.toNat_natCast, Int.reduceToNat, Int.reduceAdd, Int.reduceSub, Int.reduceMul, Int.reduceNeg, Nat.reduceAdd, Nat.reduceMul, Nat.add_zero, Nat.mul_zero, Nat.zero_add, am_zb0, am_zb1, ↓Bool.cond_decide, lc_ge, lc_le, l_toi]
            exact Wp_r ⟨I', J', by rw [z], rfl, fin, hj, fun _ => by rw [hf 64 55 (mS2_f.mpr (by omega)), am_up_e]⟩
          · rw [if_neg c2] at z
            simp (disch := first | assumption | omega) only [am_i_add, am_i_sub, am_i_mul, am_ok_i, am_i_cl, n_lt, n_le, n_eq, n_lt0, n_le0, n_0lt, n_0le, n_eq0, ne_eq, ↓reduceIte, not_true_eq_false, not_false_eq_true, and_true, true_and, and_false, false_and, eq_T, eq_F, lt_T, lt_F, le_T, le_F, qn_T, qn_F, and_F, b01_T, b01_F, e_isIn, Int32.toInt_toInt64, am_i_toInt, am_l_toInt, Int.toNat_natCast, Int.reduceToNat, Int.reduceAdd, Int.reduceSub, Int.reduceMul, Int.reduceNeg, Nat.reduceAdd, Nat.reduceMul, Nat.add_zero, Nat.mul_zero, Nat.zero_add, am_zb0, am_zb1, ↓Bool.cond_decide, lc_ge, lc_le, l_toi]
            exact Wp_r ⟨I', J', by rw [z], rfl, fin, hj, fun _ => by rw [hf 64 55 (mS2_f.mpr (by omega)), am_up_e]⟩
end MQ2
section MQ3
variable {d : Nat} {J : tJ} {R : tR} {T : Nat → Nat} {n p f : Nat} {I I' : tI}
theorem mk_f (hm : st_Rm R) (hT : txM T n I) (hp : p ≤ n) (hR : mrX T n p I) {q w : Nat} (hq : isQ q = true) (hw : wdQ q = w) (g : ¬ tW T n p = w) : (∀ d, am_E (d + 3) 172 0 [(0, .ref 64), (1, .ref q)] [] (I, J, R, 138) = some (some (.int (am_i 0)), (atP T n p I, J, R, 138))) ∧ ∀ d, am_E (d + 3) 172 0 [(0, .ref 64), (1, .ref q)] [] (atP T n p I, J, R, 138) = some (some (.int (am_i 0)), (atP T n p I, J, R, 138)) := by
  subst hw
  refine ⟨fun d => ?_, fun d => ?_⟩
  · obtain ⟨I1, t1, -, t3, -⟩ := m_takes (d := d) (J := J) hm hT hp hR hq
    have e1 := t3 g
    subst e1
    rw [b01_f g] at t1
    exact t1
  · obtain ⟨I1, t1, -, t3, -⟩ := m_takes (d := d) (J := J) hm (txM_a (p := p) hT) hp (mrX_a hR hp) hq
    have e1 := t3 g
    rw [atP_a] at e1
    subst e1
    rw [b01_f g] at t1
    exact t1
theorem mk_t (hm : st_Rm R) (hT : txM T n I) (hp : p ≤ n) (hR : mrX T n p I) {q w : Nat} (hq : isQ q = true) (hw : wdQ q = w) (g : tW T n p = w) : ∃ I1, am_E (d + 3) 172 0 [(0, .ref 64), (1, .ref q)] [] (I, J, R, 138) = some (some (.int (am_i 1)), (I1, J, R, 138)) ∧ mrX T n (tE T n p) I1 ∧ ∀ a k, ¬ mlC a k → I1 a k = I a k := by
  subst hw
  obtain ⟨I1, t1, t2, -, t4⟩ := m_takes (d := d) (J := J) hm hT hp hR hq
  rw [b01_t g] at t1
  exact ⟨I1, t1, t2 g, fun a k h => t4 a k (by unfold mlC at h; omega)⟩
theorem ml_a {I1 : tI} (h : ∀ a k, ¬ mlC a k → I1 a k = atP T n p I a k) : ∀ a k, ¬ mlC a k → I1 a k = I a k := fun a k e => by rw [h a k e, atP_o (by unfold mlC at e; omega)]
/-- which question: 0 first .. 5 least -/
def kdQ (T : Nat → Nat) (n p : Nat) : Nat := if 26 ≤ tW T n p ∧ tW T n p ≤ 31 then (tW T n p - 26).toNat else 5
theorem m_kind (hm : st_Rm R) (hT : txM T n I) (hp : p ≤ n) (hR : mrX T n p I) : ∃ I', am_E (d + 5) 285 0 [(0, .ref 64)] [] (I, J, R, 138) = some (some (.int (am_i (kdQ T n p))), (I', J, R, 138)) ∧ rdM T n (if 26 ≤ tW T n p ∧ tW T n p ≤ 31 then (0, tE T n p) else (1, tAt T n p)) I' ∧ ∀ a k, ¬ mlC a k → I' a k = I a k := by
  have hTa := txM_a (p := p) hT
  have hRa := mrX_a hR hp
  by_cases w0 : tW T n p = (26 : Nat)
  · obtain ⟨I1, t1, t2, t3⟩ := mk_t (d := d + 1) (J := J) hm hT hp hR (q := 111) (w := 26) (by decide) (by decide) w0
    have ek : kdQ T n p = 0 := by unfold kdQ; rw [w0]; rfl
    rw [ek, if_pos (by rw [w0]; decide)]
    refine ⟨I1, ?_, ⟨fun _ => t2, fun c => absurd rfl c⟩, t3⟩
    rw [sg_X12_qKind_0]
    simp (disch := first | assumption | omega) only [rM hm, ly_csm, ly_cam, ly_cf, ly_kd, ly_ln, ↓Bool.cond_decide, cond_true, cond_false, ↓bI_p, ↓bV_p, ↓bL_p, bIJ_s, bVJ_s, bLJ_s, ↓am_let_s, Nat.blt, Nat.ble, Bool.and_true, Bool.true_and, Bool.and_self, Int.cast_ofNat_Int, am_i_add, am_i_sub, am_i_mul, am_ok_i, am_i_cl, n_lt, n_le, n_eq, n_lt0, n_le0, n_0lt, n_0le, n_eq0, ne_eq, ↓reduceIte, not_true_eq_false, not_false_eq_true, and_true, true_and, and_false, false_and, eq_T, eq_F, lt_T, lt_F, le_T, le_F, qn_T, qn_F, and_F, b01_T, b01_F, e_isIn, Int32.toInt_toInt64, am_i_toInt, am_l_toInt, Int.toNat_natCast, Int.reduceToNat, Int.reduceAdd, Int.reduceSub, Int.reduceMul, Int.reduceNeg, Nat.reduceAdd, Nat.reduceMul, Nat.add_zero, Nat.mul_zero, Nat.zero_add, am_zb0, am_zb1, t1, sg_X12_qKind_90]
  have f0 := (mk_f (J := J) hm hT hp hR (q := 111) (w := 26) (by decide) (by decide) w0).1
  by_cases w1 : tW T n p = (27 : Nat)
  · obtain ⟨I1, t1, t2, t3⟩ := mk_t (d := d + 1) (J := J) hm hTa hp hRa (q := 112) (w := 27) (by decide) (by decide) w1
    have ek : kdQ T n p = 1 := by unfold kdQ; rw [w1]; rfl
    rw [ek, if_pos (by rw [w1]; decide)]
    refine ⟨I1, ?_, ⟨fun _ => t2, fun c => absurd rfl c⟩, ml_a t3⟩
    rw [sg_X12_qKind_0]
    simp (disch := first | assumption | omega) only [rM hm, ly_csm, ly_cam, ly_cf, ly_kd, ly_ln, ↓Bool.cond_decide, cond_true, cond_false, ↓bI_p, ↓bV_p, ↓bL_p, bIJ_s, bVJ_s, bLJ_s, ↓am_let_s, Nat.blt, Nat.ble, Bool.and_true, Bool.true_and, Bool.and_self, Int.cast_ofNat_Int, am_i_add, am_i_sub, am_i_mul, am_ok_i, am_i_cl, n_lt, n_le, n_eq, n_lt0, n_le0, n_0lt, n_0le, n_eq0, ne_eq, ↓reduceIte, not_true_eq_false, not_false_eq_true, and_true, true_and, and_false, false_and, eq_T, eq_F, lt_T, lt_F, le_T, le_F, qn_T, qn_F, and_F, b01_T, b01_F, e_isIn, Int32.toInt_toInt64, am_i_toInt, am_l_toInt, Int.toNat_natCast, Int.reduceToNat, Int.reduceAdd, Int.reduceSub, Int.reduceMul, Int.reduceNeg, Nat.reduceAdd, Nat.reduceMul, Nat.add_zero, Nat.mul_zero, Nat.zero_add, am_zb0, am_zb1, f0, t1, sg_X12_qKind_90]
  have f1 := (mk_f (J := J) hm hT hp hR (q := 112) (w := 27) (by decide) (by decide) w1).2
  by_cases w2 : tW T n p = (28 : Nat)
  · obtain ⟨I1, t1, t2, t3⟩ := mk_t (d := d + 1) (J := J) hm hTa hp hRa (q := 113) (w := 28) (by decide) (by decide) w2
    have ek : kdQ T n p = 2 := by unfold kdQ; rw [w2]; rfl
    rw [ek, if_pos (by rw [w2]; decide)]
    refine ⟨I1, ?_, ⟨fun _ => t2, fun c => absurd rfl c⟩, ml_a t3⟩
    rw [sg_X12_qKind_0]
    simp (disch := first | assumption | omega) only [rM hm, ly_csm, ly_cam, ly_cf, ly_kd, ly_ln, ↓Bool.cond_decide, cond_true, cond_false, ↓bI_p, ↓bV_p, ↓bL_p, bIJ_s, bVJ_s, bLJ_s, ↓am_let_s, Nat.blt, Nat.ble, Bool.and_true, Bool.true_and, Bool.and_self, Int.cast_ofNat_Int, am_i_add, am_i_sub, am_i_mul, am_ok_i, am_i_cl, n_lt, n_le, n_eq, n_lt0, n_le0, n_0lt, n_0le, n_eq0, ne_eq, ↓reduceIte, not_true_eq_false, not_false_eq_true, and_true, true_and, and_false, false_and, eq_T, eq_F, lt_T, lt_F, le_T, le_F, qn_T, qn_F, and_F, b01_T, b01_F, e_isIn, Int32.toInt_toInt64, am_i_toInt, am_l_toInt, Int.toNat_natCast, Int.reduceToNat, Int.reduceAdd, Int.reduceSub, Int.reduceMul, Int.reduceNeg, Nat.reduceAdd, Nat.reduceMul, Nat.add_zero, Nat.mul_zero, Nat.zero_add, am_zb0, am_zb1, f0, f1, t1, sg_X12_qKind_90]
  have f2 := (mk_f (J := J) hm hT hp hR (q := 113) (w := 28) (by decide) (by decide) w2).2
  by_cases w3 : tW T n p = (29 : Nat)
  · obtain ⟨I1, t1, t2, t3⟩ := mk_t (d := d + 1) (J := J) hm hTa hp hRa (q := 114) (w := 29) (by decide) (by decide) w3
    have ek : kdQ T n p = 3 := by unfold kdQ; rw [w3]; rfl
    rw [ek, if_pos (by rw [w3]; decide)]
    refine ⟨I1, ?_, ⟨fun _ => t2, fun c => absurd rfl c⟩, ml_a t3⟩
    rw [sg_X12_qKind_0]
    simp (disch := first | assumption | omega) only [rM hm, ly_csm, ly_cam, ly_cf, ly_kd, ly_ln, ↓Bool.cond_decide, cond_true, cond_false, ↓bI_p, ↓bV_p, ↓bL_p, bIJ_s, bVJ_s, bLJ_s, ↓am_let_s, Nat.blt, Nat.ble, Bool.and_true, Bool.true_and, Bool.and_self, Int.cast_ofNat_Int, am_i_add, am_i_sub, am_i_mul, am_ok_i, am_i_cl, n_lt, n_le, n_eq, n_lt0, n_le0, n_0lt, n_0le, n_eq0, ne_eq, ↓reduceIte, not_true_eq_false, not_false_eq_true, and_true, true_and, and_false, false_and, eq_T, eq_F, lt_T, lt_F, le_T, le_F, qn_T, qn_F, and_F, b01_T, b01_F, e_isIn, Int32.toInt_toInt64, am_i_toInt, am_l_toInt, Int.toNat_natCast, Int.reduceToNat, Int.reduceAdd, Int.reduceSub, Int.reduceMul, Int.reduceNeg, Nat.reduceAdd, Nat.reduceMul, Nat.add_zero, Nat.mul_zero, Nat.zero_add, am_zb0, am_zb1, f0, f1, f2, t1, sg_X12_qKind_90]
  have f3 := (mk_f (J := J) hm hT hp hR (q := 114) (w := 29) (by decide) (by decide) w3).2
  by_cases w4 : tW T n p = (30 : Nat)
  · obtain ⟨I1, t1, t2, t3⟩ := mk_t (d := d + 1) (J := J) hm hTa hp hRa (q := 115) (w := 30) (by decide) (by decide) w4
    have ek : kdQ T n p = 4 := by unfold kdQ; rw [w4]; rfl
    rw [ek, if_pos (by rw [w4]; decide)]
    refine ⟨I1, ?_, ⟨fun _ => t2, fun c => absurd rfl c⟩, ml_a t3⟩
    rw [sg_X12_qKind_0]
    simp (disch := first | assumption | omega) only [rM hm, ly_csm, ly_cam, ly_cf, ly_kd, ly_ln, ↓Bool.cond_decide, cond_true, cond_false, ↓bI_p, ↓bV_p, ↓bL_p, bIJ_s, bVJ_s, bLJ_s, ↓am_let_s, Nat.blt, Nat.ble, Bool.and_true, Bool.true_and, Bool.and_self, Int.cast_ofNat_Int, am_i_add, am_i_sub, am_i_mul, am_ok_i, am_i_cl, n_lt, n_le, n_eq, n_lt0, n_le0, n_0lt, n_0le, n_eq0, ne_eq, ↓reduceIte, not_true_eq_false, not_false_eq_true, and_true, true_and, and_false, false_and, eq_T, eq_F, lt_T, lt_F, le_T, le_F, qn_T, qn_F, and_F, b01_T, b01_F, e_isIn, Int32.toInt_toInt64, am_i_toInt, am_l_toInt, Int.toNat_natCast, Int.reduceToNat, Int.reduceAdd, Int.reduceSub, Int.reduceMul, Int.reduceNeg, Nat.reduceAdd, Nat.reduceMul, Nat.add_zero, Nat.mul_zero, Nat.zero_add, am_zb0, am_zb1, f0, f1, f2, f3, t1, sg_X12_qKind_90]
  have f4 := (mk_f (J := J) hm hT hp hR (q := 115) (w := 30) (by decide) (by decide) w4).2
  obtain ⟨I1, t1, t2, t3⟩ := m_asks (d := d) (J := J) hm hTa hp hRa (q := 116) (by decide)
  have w31 : wdQ 116 = 31 := by decide
  rw [w31] at t2
  have ek : kdQ T n p = 5 := by
    unfold kdQ
    split
    · have : tW T n p = 31 := by omega
      rw [this]; rfl
    · rfl
  have er : (if 26 ≤ tW T n p ∧ tW T n p ≤ 31 then (0, tE T n p) else (1, tAt T n p)) = aW T n p 31 := by
    unfold aW
    by_cases q : tW T n p = (31 : Nat)
    · rw [if_pos q, if_pos (by omega)]
    · rw [if_neg q, if_neg (by omega)]
  rw [ek, er]
  refine ⟨I1, ?_, t2, ml_a t3⟩
  rw [sg_X12_qKind_0]
  simp (disch := first | assumption | omega) only [rM hm, ly_csm, ly_cam, ly_cf, ly_kd, ly_ln, ↓Bool.cond_decide, cond_true, cond_false, ↓bI_p, ↓bV_p, ↓bL_p, bIJ_s, bVJ_s, bLJ_s, ↓am_let_s, Nat.blt, Nat.ble, Bool.and_true, Bool.true_and, Bool.and_self, Int.cast_ofNat_Int, am_i_add, am_i_sub, am_i_mul, am_ok_i, am_i_cl, n_lt, n_le, n_eq, n_lt0, n_le0, n_0lt, n_0le, n_eq0, ne_eq, ↓reduceIte, not_true_eq_false, not_false_eq_true, and_true, true_and, and_false, false_and, eq_T, eq_F, lt_T, lt_F, le_T, le_F, qn_T, qn_F, and_F, b01_T, b01_F, e_isIn, Int32.toInt_toInt64, am_i_toInt, am_l_toInt, Int.toNat_natCast, Int.reduceToNat, Int.reduceAdd, Int.reduceSub, Int.reduceMul, Int.reduceNeg, Nat.reduceAdd, Nat.reduceMul, Nat.add_zero, Nat.mul_zero, Nat.zero_add, am_zb0, am_zb1, f0, f1, f2, f3, f4, t1, sg_X12_qKind_90]
/-- what is told of a question's text -/
def qrM (r : pR) (I : tI) : Prop := (r.1 = 0 → I 64 5 = am_i 0 ∧ I 64 6 = am_i (-1) ∧ I 64 95 = am_i r.2.2.length ∧ ∀ k t, r.2.2[k]? = some t → I 134 k = am_i (encM t)) ∧ (r.1 ≠ 0 → I 64 5 = am_i r.1 ∧ I 64 6 = am_i r.2.1)
def qC (q k : Nat) : Prop := q = 134 ∨ q = 135 ∨ (q = 64 ∧ k ≠ 7 ∧ k ≠ 8 ∧ k ≠ 50 ∧ k ≠ 58 ∧ k ≠ 63 ∧ k ≠ 68 ∧ k ≠ 69 ∧ k ≠ 105)
theorem tC_0 : tC T n p = -1 ↔ tK T n p = 0 := by
  rw [tK_0]
  unfold tC
  split
  · constructor
    · intro h; omega
    · intro h; omega
  · constructor
    · intro _; omega
    · intro _; rfl
theorem m_q119 (hm : st_Rm R) {a : Nat} {r : pR} (ha : a ≤ 5) (h9 : r.1 < 9) (h0 : r.1 = 0 → yS T n 3 0 0 r.2.1 0 [] (List.map encM r.2.2) I) (h1 : r.1 ≠ 0 → yE T n 3 0 0 r.1 r.2.1 I) : ∃ I', am_E (d + 3) 287 119 [(0, .ref 64), (1, .int (am_i a))] [] (I, J, R, 138) = am_E (d + 3) 287 143 [(0, .ref 64), (1, .int (am_i a))] [] (I', J, R, 138) ∧ qrM (pB r (pZ T n)) I' ∧ yN I I' := by
  by_cases q : r.1 = 0
  · have y := h0 q
    have ya := yS_a y
    have lk := fun d => e_look (d := d) (J := J) hm y.1 y.2.2.2.1 y.2.1
    have tb := tC_b (T := T) (n := n) (p := r.2.1) (fun k hk => (y.1.2.1 k hk).1)
    have h5 := y.2.1.2.1
    have hS := ya.2.2.1
    have eb : pB r (pZ T n) = ((pZ T n r.2.1).1, (pZ T n r.2.1).2.1, r.2.2 ++ (pZ T n r.2.1).2.2) := pB_0 q
    rw [eb]
    unfold pZ
    by_cases q0 : tK T n r.2.1 = 0
    · have qc : tC T n r.2.1 = -1 := tC_0.mpr q0
      rw [if_pos q0]
      refine ⟨atP T n r.2.1 I, ?_, ⟨fun _ => ⟨ya.2.1.2.1, mrX_6 ya.2.1, ?_, ?_⟩, fun c => absurd rfl c⟩, yN_a⟩
      · conv => lhs; rw [sg_X12_ask_119]
        simp (disch := first | assumption | omega) only [rM hm, ly_csm, ly_cam, ly_cf, ly_kd, ly_ln, ↓Bool.cond_decide, cond_true, cond_false, ↓bI_p, ↓bV_p, ↓bL_p, bIJ_s, bVJ_s, bLJ_s, ↓am_let_s, Nat.blt, Nat.ble, Bool.and_true, Bool.true_and, Bool.and_self, Int.cast_ofNat_Int, am_i_add, am_i_sub, am_i_mul, am_ok_i, am_i_cl, n_lt, n_le, n_eq, n_lt0, n_le0, n_0lt, n_0le, n_eq0, ne_eq, ↓reduceIte, not_true_eq_false, not_false_eq_true, and_true, true_and, and_false, false_and, eq_T, eq_F, lt_T, lt_F, le_T, le_F, qn_T, qn_F, and_F, b01_T, b01_F, e_isIn, Int32.toInt_toInt64, am_i_toInt, am_l_toInt, Int.toNat_natCast, Int.reduceToNat, Int.reduceAdd, Int.reduceSub, Int.reduceMul, Int.reduceNeg, Nat.reduceAdd, Nat.reduceMul, Nat.add_zero, Nat.mul_zero, Nat.zero_add, am_zb0, am_zb1, h5, lk, qc]
      · show atP T n r.2.1 I 64 95 = am_i (r.2.2 ++ []).length
        rw [List.append_nil, hS.2.1, List.length_map]
      · show ∀ k t, (r.2.2 ++ [])[k]? = some t → _
        rw [List.append_nil]
        exact fun k t e => hS.2.2.2.2.2.1 k (encM t) (by rw [List.getElem?_map, e]; rfl)
    · have qc : ¬ tC T n r.2.1 = -1 := fun c => q0 (tC_0.mp c)
      rw [if_neg q0]
      have a2 : atP T n r.2.1 I 64 2 = am_i (tAt T n r.2.1) := atP_2
      have fl := fun d => m_fail (d := d) (J := J) (R := R) (I := atP T n r.2.1 I) (v := am_i 1) (w := am_i (tAt T n r.2.1)) hm ya.2.1.2.1
      refine ⟨am_up (am_up (atP T n r.2.1 I) 64 5 (am_i 1)) 64 6 (am_i (tAt T n r.2.1)), ?_, ⟨fun c => absurd c (by show ¬ ((1 : Nat) = 0); decide), fun _ => ⟨by rw [am_up_o (by omega), am_up_e]; rfl, am_up_e⟩⟩, yN_t yN_a (yN_m (fun q k e => by unfold mlC at e; rw [am_up_o (by omega), am_up_o (by omega)]))⟩
      conv => lhs; rw [sg_X12_ask_119]
      simp (disch := first | assumption | omega) only [rM hm, ly_csm, ly_cam, ly_cf, ly_kd, ly_ln, ↓Bool.cond_decide, cond_true, cond_false, ↓bI_p, ↓bV_p, ↓bL_p, bIJ_s, bVJ_s, bLJ_s, ↓am_let_s, Nat.blt, Nat.ble, Bool.and_true, Bool.true_and, Bool.and_self, Int.cast_ofNat_Int, am_i_add, am_i_sub, am_i_mul, am_ok_i, am_i_cl, n_lt, n_le, n_eq, n_lt0, n_le0, n_0lt, n_0le, n_eq0, ne_eq, ↓reduceIte, not_true_eq_false, not_false_eq_true, and_true, true_and, and_false, false_and, eq_T, eq_F, lt_T, lt_F, le_T, le_F, qn_T, qn_F, and_F, b01_T, b01_F, e_isIn, Int32.toInt_toInt64, am_i_toInt, am_l_toInt, Int.toNat_natCast, Int.reduceToNat, Int.reduceAdd, Int.reduceSub, Int.reduceMul, Int.reduceNeg, Nat.reduceAdd, Nat.reduceMul, Nat.add_zero, Nat.mul_zero, Nat.zero_add, am_zb0, am_zb1, h5, lk, a2, fl]
  · have y := h1 q
    have h5 := yE_5 y
    rw [pB_n q]
    refine ⟨I, ?_, ⟨fun c => absurd c q, fun _ => ⟨y.2.2.2.1, y.2.2.2.2.1⟩⟩, yN_r⟩
    conv => lhs; rw [sg_X12_ask_119]
    simp (disch := first | assumption | omega) only [rM hm, ly_csm, ly_cam, ly_cf, ly_kd, ly_ln, ↓Bool.cond_decide, cond_true, cond_false, ↓bI_p, ↓bV_p, ↓bL_p, bIJ_s, bVJ_s, bLJ_s, ↓am_let_s, Nat.blt, Nat.ble, Bool.and_true, Bool.true_and, Bool.and_self, Int.cast_ofNat_Int, am_i_add, am_i_sub, am_i_mul, am_ok_i, am_i_cl, n_lt, n_le, n_eq, n_lt0, n_le0, n_0lt, n_0le, n_eq0, ne_eq, ↓reduceIte, not_true_eq_false, not_false_eq_true, and_true, true_and, and_false, false_and, eq_T, eq_F, lt_T, lt_F, le_T, le_F, qn_T, qn_F, and_F, b01_T, b01_F, e_isIn, Int32.toInt_toInt64, am_i_toInt, am_l_toInt, Int.toNat_natCast, Int.reduceToNat, Int.reduceAdd, Int.reduceSub, Int.reduceMul, Int.reduceNeg, Nat.reduceAdd, Nat.reduceMul, Nat.add_zero, Nat.mul_zero, Nat.zero_add, am_zb0, am_zb1, h5]
/-- the memory in which a question is read -/
def qsI (I : tI) (n wd : Nat) : tI := am_up (am_up (am_up (am_up (am_up (am_up (am_up (am_up (am_up (am_up (am_up (am_up I 64 3 (am_i n)) 64 1 (am_i 0)) 64 2 (am_i 0)) 64 4 (am_i (-1))) 64 5 (am_i 0)) 64 6 (am_i (-1))) 64 51 (am_i 2)) 64 55 (am_i wd)) 64 95 (am_i 0)) 64 97 (am_i 0)) 64 98 (am_i 0)) 64 99 (am_i 0)
theorem qsI_o {wd q k : Nat} (h : ¬ qC q k) : qsI I n wd q k = I q k := by
  unfold qC at h
  unfold qsI
  rw [am_up_o (by omega), am_up_o (by omega), am_up_o (by omega), am_up_o (by omega), am_up_o (by omega), am_up_o (by omega), am_up_o (by omega), am_up_o (by omega), am_up_o (by omega), am_up_o (by omega), am_up_o (by omega), am_up_o (by omega)]
theorem qsI_v {wd : Nat} : qsI I n wd 64 3 = am_i n ∧ qsI I n wd 64 1 = am_i 0 ∧ qsI I n wd 64 2 = am_i 0 ∧ qsI I n wd 64 4 = am_i (-1) ∧ qsI I n wd 64 5 = am_i 0 ∧ qsI I n wd 64 6 = am_i (-1) ∧ qsI I n wd 64 51 = am_i 2 ∧ qsI I n wd 64 55 = am_i wd ∧ qsI I n wd 64 95 = am_i 0 ∧ qsI I n wd 64 97 = am_i 0 ∧ qsI I n wd 64 98 = am_i 0 ∧ qsI I n wd 64 99 = am_i 0 := by
  unfold qsI
  refine ⟨?_, ?_, ?_, ?_, ?_, ?_, ?_, ?_, ?_, ?_, ?_, ?_⟩
  all_goals simp (disch := omega) only [am_up_o, am_up_e]
theorem yN_c {q k : Nat} (h : yN I I') (e : ¬ qC q k) : I' q k = I q k := h q k (fun c => by
  unfold qC at e
  unfold yQ mlC sqC at c
  omega)
theorem m_quest (hm : st_Rm R) {wd : Nat} (hT : txM T n I) (h50 : I 64 50 = am_i 1) (h1 : I 64 1 = am_i n) (h4 : I 93 4 = am_i wd) (hf : 10 * n + 20 ≤ f) : ∃ I', am_E (d + 11) 287 0 [(0, .ref 64)] [] (I, J, R, 138) = am_E (d + 11) 287 143 [(0, .ref 64), (1, .int (am_i (kdQ T n 0)))] [] (I', J, R, 138) ∧ qrM (pQ T n f) I' ∧ I' 64 1 = am_i 0 ∧ I' 64 51 = am_i 2 ∧ I' 64 55 = am_i wd ∧ ∀ q k, ¬ qC q k → I' q k = I q k := by
  obtain ⟨v3, v1, v2, v4, v5, v6, v51, v55, v95, v97, v98, v99⟩ := qsI_v (I := I) (n := n) (wd := wd)
  have hs0 : am_E (d + 11) 287 0 [(0, .ref 64)] [] (I, J, R, 138) = am_bI (am_E (d + 10) 285 0 [(0, .ref 64)] [] (qsI I n wd, J, R, 138)) (fun v1 M1 => (bif am_cf M1.2.2.2 64 12 then (bif ((M1.1 64 5) ≠ 0) then am_E (d + 11) 287 108 [(0, .ref 64), (1, .int v1)] [] M1 else (bif ((am_i 3) ≤ v1) then am_E (d + 11) 287 108 [(0, .ref 64), (1, .int v1)] [] M1 else (am_bV (am_E (d + 10) 276 0 [(0, .ref 64)] [] M1) (fun M2 => am_E (d + 11) 287 119 [(0, .ref 64), (1, .int v1)] [] M2)))) else none)) := by
    have u38 : ∀ x y z w a b c : Int32, am_up (am_up (am_up (am_up (am_up (am_up (am_up I 64 3 x) 64 1 y) 64 2 z) 64 4 w) 64 5 a) 64 6 b) 64 51 c 93 4 = am_i wd := fun x y z w a b c => by
      rw [am_up_o (by omega), am_up_o (by omega), am_up_o (by omega), am_up_o (by omega), am_up_o (by omega), am_up_o (by omega), am_up_o (by omega)]; exact h4
    rw [sg_X12_ask_0]
    unfold qsI
    simp (disch := first | assumption | omega) only [rM hm, ly_csm, ly_cam, ly_cf, ↓Bool.cond_decide, cond_true, cond_false, ↓am_let_s, Bool.and_true, am_i_add, am_i_sub, am_i_mul, am_ok_i, am_i_cl, n_lt, n_le, n_eq, n_lt0, n_le0, n_0lt, n_0le, n_eq0, ne_eq, ↓reduceIte, not_true_eq_false, not_false_eq_true, and_true, true_and, and_false, false_and, eq_T, eq_F, lt_T, lt_F, le_T, le_F, qn_T, qn_F, and_F, b01_T, b01_F, e_isIn, Int32.toInt_toInt64, am_i_toInt, am_l_toInt, Int.toNat_natCast, Int.reduceToNat, Int.reduceAdd, Int.reduceSub, Int.reduceMul, Int.reduceNeg, Nat.reduceAdd, Nat.reduceMul, Nat.add_zero, Nat.mul_zero, Nat.zero_add, am_zb0, am_zb1, h50, h1, u38]
  have T0 : txM T n (qsI I n wd) := txM_c hT (fun q k e => qsI_o (by
    have : q ≠ 64 ∧ q ≠ 134 ∧ q ≠ 135 := by
      rcases e with e | e
      · omega
      · refine ⟨fix_n e, fun q' => ?_, fun q' => ?_⟩ <;> subst q' <;> exact absurd e (by decide)
    unfold qC
    omega))
  have R0 : mrX T n 0 (qsI I n wd) := mrX_0 v2 v3 v4 v5 v6
  have kb : kdQ T n 0 ≤ 5 := by unfold kdQ; split <;> omega
  obtain ⟨I1, a1, a2, a3⟩ := m_kind (d := d + 5) (J := J) hm T0 (by omega) R0
  have a1' : am_E (d + 10) 285 0 [(0, .ref 64)] [] (qsI I n wd, J, R, 138) = some (some (.int (am_i (kdQ T n 0))), (I1, J, R, 138)) := a1
  have fr1 : ∀ q k, ¬ qC q k → I1 q k = I q k := fun q k e => by rw [a3 q k (by unfold qC at e; unfold mlC; omega), qsI_o e]
  have g1 : ∀ k, (k = 1 ∨ k = 51 ∨ k = 55 ∨ k = 95 ∨ k = 97 ∨ k = 98 ∨ k = 99) → I1 64 k = qsI I n wd 64 k := fun k hk => a3 64 k (by unfold mlC; omega)
  have fin : ∀ I2 I', yN I1 I2 → yN I2 I' → I' 64 1 = am_i 0 ∧ I' 64 51 = am_i 2 ∧ I' 64 55 = am_i wd ∧ ∀ q k, ¬ qC q k → I' q k = I q k := fun I2 I' n1 n2 => by
    have n3 := yN_t n1 n2
    exact ⟨by rw [n3 _ _ (by unfold yQ mlC sqC; omega), g1 _ (by omega)]; exact v1, by rw [n3 _ _ (by unfold yQ mlC sqC; omega), g1 _ (by omega)]; exact v51, by rw [n3 _ _ (by unfold yQ mlC sqC; omega), g1 _ (by omega)]; exact v55, fun q k e => by rw [yN_c n3 e]; exact fr1 q k e⟩
  rw [hs0, a1']
  by_cases q : 26 ≤ tW T n 0 ∧ tW T n 0 ≤ 31
  · rw [if_pos q] at a2
    have te := tE_s (T := T) (n := n) (p := 0) (by omega) (tW_0 (by omega))
    have R1 := a2.1 rfl
    have h5 := R1.2.1
    have y1 : yS T n 3 0 0 (tE T n 0) 0 [] [] I1 := ⟨txM_c T0 (fun q k e => a3 q k (by
      have : q ≠ 64 := by
        rcases e with e | e
        · omega
        · exact fix_n e
      unfold mlC
      omega)), R1, ⟨by rw [g1 _ (by omega)]; exact v51, by rw [g1 _ (by omega)]; exact v95, by rw [g1 _ (by omega)]; exact v97, by rw [g1 _ (by omega)]; exact v98, by rw [g1 _ (by omega)]; exact v99, fun k c e => by simp at e, trivial, fun w hw => absurd hw List.not_mem_nil, by show 0 + 0 ≤ 1600; omega, by omega, by omega⟩, te.2, by show 0 + 0 + 1 + 0 ≤ _; omega, rfl, by omega⟩
    have ek : (kdQ T n 0 : Int) = tW T n 0 - 26 := by unfold kdQ; rw [if_pos q]; omega
    by_cases q1 : tW T n 0 ≤ 28
    · have e : pQ T n f = pB (pG T n 3 f 8 0 (tE T n 0)) (pZ T n) := if_pos ⟨q.1, q1⟩
      rw [e]
      obtain ⟨I2, b1, b2, b3, b4⟩ := e_test (d := d) (J := J) (f := f) hm y1 (by omega)
      have ge := pG_e (T := T) (so := 3) (f := f) (md := 8) (o := 0) (p := tE T n 0) (by omega) (by omega) te.2 (by show 10 * (n - tE T n 0) + 8 + 1 ≤ f; omega)
      obtain ⟨I3, c1, c2, c3⟩ := m_q119 (d := d + 8) (J := J) (a := kdQ T n 0) hm kb ge.1 b2 b3
      refine ⟨I3, ?_, c2, fin I2 I3 b4 c3⟩
      rw [← c1]
      have k3 : ¬ ((3 : Int) ≤ (kdQ T n 0 : Int)) := by omega
      simp (disch := first | assumption | omega) only [rM hm, ly_csm, ly_cam, ly_cf, ly_kd, ly_ln, ↓Bool.cond_decide, cond_true, cond_false, ↓bI_p, ↓bV_p, ↓bL_p, bIJ_s, bVJ_s, bLJ_s, ↓am_let_s, Nat.blt, Nat.ble, Bool.and_true, Bool.true_and, Bool.and_self, Int.cast_ofNat_Int, am_i_add, am_i_sub, am_i_mul, am_ok_i, am_i_cl, n_lt, n_le, n_eq, n_lt0, n_le0, n_0lt, n_0le, n_eq0, ne_eq, ↓reduceIte, not_true_eq_false, not_false_eq_true, and_true, true_and, and_false, false_and, eq_T, eq_F, lt_T, lt_F, le_T, le_F, qn_T, qn_F, and_F, b01_T, b01_F, e_isIn, Int32.toInt_toInt64, am_i_toInt, am_l_toInt, Int.toNat_natCast, Int.reduceToNat, Int.reduceAdd, Int.reduceSub, Int.reduceMul, Int.reduceNeg, Nat.reduceAdd, Nat.reduceMul, Nat.add_zero, Nat.mul_zero, Nat.zero_add, am_zb0, am_zb1, h5, b1]
    · have e : pQ T n f = pB (pG T n 3 f 3 0 (tE T n 0)) (pZ T n) := by
        unfold pQ
        rw [if_neg (by omega), if_pos (by omega)]
      rw [e]
      obtain ⟨I2, b1, b2, b3, b4⟩ := e_sums (d := d + 2) (J := J) (f := f) hm y1 (fun w hw => by cases hw) (by omega)
      have ge := pG_e (T := T) (so := 3) (f := f) (md := 3) (o := 0) (p := tE T n 0) (by omega) (by omega) te.2 (by show 10 * (n - tE T n 0) + 3 + 1 ≤ f; omega)
      obtain ⟨I3, c1, c2, c3⟩ := m_q119 (d := d + 8) (J := J) (a := kdQ T n 0) hm kb ge.1 b2 b3
      refine ⟨I3, ?_, c2, fin I2 I3 b4 c3⟩
      have b1' : am_E (d + 10) 272 0 [(0, .ref 64)] [] (I1, J, R, 138) = some (none, (I2, J, R, 138)) := b1
      rw [← c1]
      have k3 : (3 : Int) ≤ (kdQ T n 0 : Int) := by omega
      simp (disch := first | assumption | omega) only [rM hm, ly_csm, ly_cam, ly_cf, ly_kd, ly_ln, ↓Bool.cond_decide, cond_true, cond_false, ↓bI_p, ↓bV_p, ↓bL_p, bIJ_s, bVJ_s, bLJ_s, ↓am_let_s, Nat.blt, Nat.ble, Bool.and_true, Bool.true_and, Bool.and_self, Int.cast_ofNat_Int, am_i_add, am_i_sub, am_i_mul, am_ok_i, am_i_cl, n_lt, n_le, n_eq, n_lt0, n_le0, n_0lt, n_0le, n_eq0, ne_eq, ↓reduceIte, not_true_eq_false, not_false_eq_true, and_true, true_and, and_false, false_and, eq_T, eq_F, lt_T, lt_F, le_T, le_F, qn_T, qn_F, and_F, b01_T, b01_F, e_isIn, Int32.toInt_toInt64, am_i_toInt, am_l_toInt, Int.toNat_natCast, Int.reduceToNat, Int.reduceAdd, Int.reduceSub, Int.reduceMul, Int.reduceNeg, Nat.reduceAdd, Nat.reduceMul, Nat.add_zero, Nat.mul_zero, Nat.zero_add, am_zb0, am_zb1, h5, sg_X12_ask_108, b1']
  · rw [if_neg q] at a2
    have e : pQ T n f = (1, tAt T n 0, []) := by
      unfold pQ
      rw [if_neg (by omega), if_neg (by omega)]
    rw [e]
    obtain ⟨e5, e6⟩ := a2.2 (by show ¬ ((1 : Nat) = 0); decide)
    have e5' : I1 64 5 = am_i 1 := e5
    refine ⟨I1, ?_, ⟨fun c => absurd c (by show ¬ ((1 : Nat) = 0); decide), fun _ => ⟨e5, e6⟩⟩, fin I1 I1 yN_r yN_r⟩
    simp (disch := first | assumption | omega) only [rM hm, ly_csm, ly_cam, ly_cf, ly_kd, ly_ln, ↓Bool.cond_decide, cond_true, cond_false, ↓bI_p, ↓bV_p, ↓bL_p, bIJ_s, bVJ_s, bLJ_s, ↓am_let_s, Nat.blt, Nat.ble, Bool.and_true, Bool.true_and, Bool.and_self, Int.cast_ofNat_Int, am_i_add, am_i_sub, am_i_mul, am_ok_i, am_i_cl, n_lt, n_le, n_eq, n_lt0, n_le0, n_0lt, n_0le, n_eq0, ne_eq, ↓reduceIte, not_true_eq_false, not_false_eq_true, and_true, true_and, and_false, false_and, eq_T, eq_F, lt_T, lt_F, le_T, le_F, qn_T, qn_F, and_F, b01_T, b01_F, e_isIn, Int32.toInt_toInt64, am_i_toInt, am_l_toInt, Int.toNat_natCast, Int.reduceToNat, Int.reduceAdd, Int.reduceSub, Int.reduceMul, Int.reduceNeg, Nat.reduceAdd, Nat.reduceMul, Nat.add_zero, Nat.mul_zero, Nat.zero_add, am_zb0, am_zb1, e5', sg_X12_ask_108, sg_X12_ask_119]
end MQ3
