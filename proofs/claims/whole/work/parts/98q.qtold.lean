/-! ===== a question's value: the reference ===== -/
theorem cutZ_i {v : Int} (h1 : -1000000 ≤ v) (h2 : v ≤ 1000000) : cutZ v = v := by unfold cutZ; rw [if_neg (by omega), if_neg (by omega)]
section QLOOP
variable {d : Nat} {J0 : tJ} {R : tR}
theorem q_loop {bb e : Nat} {en : Nat → Int} {e1 : Nat → Int → Int} {b : Bool} {I0 : tI} (hm : st_Rm R) (he : e ≤ 1600) (hE : I0 64 95 = am_i e)
    (hen : ∀ w, wdOK true false w → -1000000 ≤ en w ∧ en w ≤ 1000000 ∧ ∀ d I J, fr mS1 I0 I → am_E (d + 3) 282 0 [(0, .ref 64), (1, .int (am_i (wnoM w))), (2, .int (am_i bb))] [] (I, J, R, 138) = some (some (.long (am_l (en w))), (I, J, R, 138)))
    (he1 : ∀ w v, (w = 9 ∨ w = 5) → -1000000 ≤ v → v ≤ 1000000 → -1000000 ≤ e1 w v ∧ e1 w v ≤ 1000000 ∧ ∀ d I J, fr mS1 I0 I → am_E (d + 3) 283 0 [(0, .ref 64), (1, .int (am_i (if w = 9 then 0 else 1))), (2, .long (am_l v)), (4, .int (am_i bb))] [] (I, J, R, 138) = some (some (.long (am_l (e1 w v))), (I, J, R, 138))) :
    ∀ (p : List tok) (i : Nat) (bs : List Bool) (vs : List Int) (I : tI) (J : tJ), tokOK bs p = some [b] → (∀ t ∈ p, tokW true false t) → bs.length ≤ 63 → stT bs vs → fr mS1 I0 I → frJ J0 J → stB (J 136) vs → I 64 101 = am_i vs.length → i + p.length = e → (∀ k t, p[k]? = some t → I0 134 (i + k) = am_i (encM t)) →
      ∃ v, ev en e1 vs p = [v] ∧ vOK b v ∧ mG R v I0 J0 (am_E (d + 4) 284 7 [(0, .ref 64), (1, .int (am_i bb)), (2, .int (am_i i))] [] (I, J, R, 138))
  | [], i, bs, vs, I, J, hOK, hW, h63, hT, hf, hj, hA, hL, hi, hC => by
    have hbs : bs = [b] := by simpa [tokOK] using hOK
    subst hbs
    obtain ⟨v, r, rfl, h1, h2⟩ := stT_1 hT
    have hr : r = [] := by cases r with | nil => rfl | cons _ _ => exact h2.elim
    subst hr
    have hi' : i = e := by simpa using hi
    subst hi'
    have hE' : I 64 95 = am_i i := by rw [hf 64 95 rfl]; exact hE
    have hv : J 136 0 = am_l v := hA.1
    refine ⟨v, rfl, h1, I, J, ?_, hf, hj⟩
    rw [sg_X12_qTold_7]
    simp (disch := first | assumption | omega) only [rM hm, ly_csm, ly_cam, ly_cf, ly_kd, ly_ln, ↓Bool.cond_decide, cond_true, cond_false, ↓bI_p, ↓bV_p, ↓bL_p, bIJ_s, bVJ_s, bLJ_s, ↓am_let_s, Nat.blt, Nat.ble, Bool.and_true, Bool.true_and, Bool.and_self, Int.cast_ofNat_Int, am_i_add, am_i_sub, am_i_mul, am_ok_i, am_i_cl, n_lt, n_le, n_eq, n_lt0, n_le0, n_0lt, n_0le, n_eq0, ne_eq, ↓reduceIte, not_true_eq_false, not_false_eq_true, and_true, true_and, and_false, false_and, eq_T, eq_F, lt_T, lt_F, le_T, le_F, qn_T, qn_F, and_F, b01_T, b01_F, e_isIn, Int32.toInt_toInt64, am_i_toInt, am_l_toInt, Int.toNat_natCast, Int.reduceToNat, Int.reduceAdd, Int.reduceSub, Int.reduceMul, Int.reduceNeg, Nat.reduceAdd, Nat.reduceMul, Nat.add_zero, Nat.mul_zero, Nat.zero_add, am_zb0, am_zb1, hE', hv]
  | (k, x) :: p, i, bs, vs, I, J, hOK, hW, h63, hT, hf, hj, hA, hL, hi, hC => by
    have hWt := hW _ List.mem_cons_self
    have hWp : ∀ t ∈ p, tokW true false t := fun t ht => hW t (List.mem_cons_of_mem _ ht)
    have hCp : ∀ k t, p[k]? = some t → I0 134 (i + 1 + k) = am_i (encM t) := fun k t h => by
      have := hC (k + 1) t h
      rw [show i + 1 + k = i + (k + 1) by omega]
      exact this
    have hi' : i + 1 + p.length = e := by
      have : i + (p.length + 1) = e := hi
      omega
    have hE' : I 64 95 = am_i e := by rw [hf 64 95 rfl]; exact hE
    have h0 : I 134 i = am_i (encM (k, x)) := by
      rw [hf 134 _ rfl]
      exact hC 0 _ rfl
    have hlen := stT_len hT
    simp only [tokOK] at hOK
    cases hD : tokD bs (k, x) with
    | none => rw [hD] at hOK; cases hOK
    | some bs' =>
      rw [hD] at hOK
      simp only at hOK
      split at hOK
      · next h63' =>
        rcases tokD_c hD with ⟨rfl, rfl⟩ | ⟨rfl, rfl⟩ | ⟨rfl, r, rfl, rfl⟩ | ⟨rfl, r, rfl, rfl, hs⟩ | ⟨rfl, r, rfl, rfl, hs⟩ | ⟨rfl, rfl⟩ | ⟨rfl, r, rfl, rfl⟩
        · have hx9 : x ≤ 9999 := hWt
          have h0' : I 134 i = am_i (1000 + (x : Int)) := h0
          have c1 : (am_i (1000 + (x : Int) - 1000)).toInt64 = am_l x := by
            rw [i_tol (by omega) (by omega)]
            congr 1
            omega
          rw [List.length_cons] at h63'
          obtain ⟨v, g1, g2, g3⟩ := q_loop hm he hE hen he1 p (i + 1) _ ((x : Int) :: vs) (am_up I 64 101 (am_i (vs.length + 1 : Nat))) (am_up J 136 vs.length (am_l x)) hOK hWp h63' ⟨⟨by omega, by omega, fun h => by cases h⟩, hT⟩ (mS1_u hf) (frJ_u hj) (stB_u hA) am_up_e hi' hCp
          refine ⟨v, g1, g2, ?_⟩
          have e2 := fun d v => m_puts (d := d) (J := J) (v := v) hm hL (by omega)
          rw [sg_X12_qTold_7]
          simp (disch := first | assumption | omega) only [rM hm, ly_csm, ly_cam, ly_cf, ly_kd, ly_ln, ↓Bool.cond_decide, cond_true, cond_false, ↓bI_p, ↓bV_p, ↓bL_p, bIJ_s, bVJ_s, bLJ_s, ↓am_let_s, Nat.blt, Nat.ble, Bool.and_true, Bool.true_and, Bool.and_self, Int.cast_ofNat_Int, am_i_add, am_i_sub, am_i_mul, am_ok_i, am_i_cl, n_lt, n_le, n_eq, n_lt0, n_le0, n_0lt, n_0le, n_eq0, ne_eq, ↓reduceIte, not_true_eq_false, not_false_eq_true, and_true, true_and, and_false, false_and, eq_T, eq_F, lt_T, lt_F, le_T, le_F, qn_T, qn_F, and_F, b01_T, b01_F, e_isIn, Int32.toInt_toInt64, am_i_toInt, am_l_toInt, Int.toNat_natCast, Int.reduceToNat, Int.reduceAdd, Int.reduceSub, Int.reduceMul, Int.reduceNeg, Nat.reduceAdd, Nat.reduceMul, Nat.add_zero, Nat.mul_zero, Nat.zero_add, am_zb0, am_zb1, hE', h0', c1, e2, sg_X12_qTold_162, am_i_s]
          exact g3
        · obtain ⟨q1, q2, q3⟩ := hen x hWt
          have q3' := fun d => q3 d I J hf
          have cl := fun d M => m_clip (d := d) (M := M) (en x) (by omega) (by omega)
          rw [cutZ_i q1 q2] at cl
          have hb := wno_b x
          have h0' : I 134 i = am_i (40 + wnoM x) := h0
          have c1 : am_i (40 + wnoM x) - am_i 40 = am_i (wnoM x) := by
            rw [am_i_sub]
            congr 1
            omega
          rw [List.length_cons] at h63'
          obtain ⟨v, g1, g2, g3⟩ := q_loop hm he hE hen he1 p (i + 1) _ (en x :: vs) (am_up I 64 101 (am_i (vs.length + 1 : Nat))) (am_up J 136 vs.length (am_l (en x))) hOK hWp h63' ⟨⟨q1, q2, fun h => by cases h⟩, hT⟩ (mS1_u hf) (frJ_u hj) (stB_u hA) am_up_e hi' hCp
          refine ⟨v, g1, g2, ?_⟩
          have e2 := fun d v => m_puts (d := d) (J := J) (v := v) hm hL (by omega)
          rw [sg_X12_qTold_7]
          simp (disch := first | assumption | omega) only [rM hm, ly_csm, ly_cam, ly_cf, ly_kd, ly_ln, ↓Bool.cond_decide, cond_true, cond_false, ↓bI_p, ↓bV_p, ↓bL_p, bIJ_s, bVJ_s, bLJ_s, ↓am_let_s, Nat.blt, Nat.ble, Bool.and_true, Bool.true_and, Bool.and_self, Int.cast_ofNat_Int, ↓c1, am_i_add, am_i_sub, am_i_mul, am_ok_i, am_i_cl, n_lt, n_le, n_eq, n_lt0, n_le0, n_0lt, n_0le, n_eq0, ne_eq, ↓reduceIte, not_true_eq_false, not_false_eq_true, and_true, true_and, and_false, false_and, eq_T, eq_F, lt_T, lt_F, le_T, le_F, qn_T, qn_F, and_F, b01_T, b01_F, e_isIn, Int32.toInt_toInt64, am_i_toInt, am_l_toInt, Int.toNat_natCast, Int.reduceToNat, Int.reduceAdd, Int.reduceSub, Int.reduceMul, Int.reduceNeg, Nat.reduceAdd, Nat.reduceMul, Nat.add_zero, Nat.mul_zero, Nat.zero_add, am_zb0, am_zb1, ↓bL_p, bLJ_s, hE', h0', c1, q3', cl, e2, sg_X12_qTold_162, am_i_s]
          exact g3
        · obtain ⟨w, r', rfl, h1, h2⟩ := stT_1 hT
          have hl2 := stT_len h2
          have hw01 := h1.2.2 rfl
          have h0' : I 134 i = am_i 12 := h0
          have y1 : I 64 101 - am_i 1 = am_i (r'.length : Int) := by
            rw [hL, am_i_sub]
            congr 1
            simp
          rw [List.length_cons] at h63'
          have hB : stB (am_up J 136 r'.length (am_l (1 - w)) 136) ((1 - w) :: r') := stB_u hA.2
          obtain ⟨v, g1, g2, g3⟩ := q_loop hm he hE hen he1 p (i + 1) _ ((1 - w) :: r') I (am_up J 136 r'.length (am_l (1 - w))) hOK hWp h63' ⟨⟨by omega, by omega, fun _ => by omega⟩, h2⟩ hf (frJ_u hj) hB hL hi' hCp
          refine ⟨v, g1, g2, ?_⟩
          have y2 : J 136 r'.length = am_l w := hA.1
          rw [sg_X12_qTold_7]
          simp (disch := first | assumption | omega) only [rM hm, ly_csm, ly_cam, ly_cf, ly_kd, ly_ln, ↓Bool.cond_decide, cond_true, cond_false, ↓bI_p, ↓bV_p, ↓bL_p, bIJ_s, bVJ_s, bLJ_s, ↓am_let_s, Nat.blt, Nat.ble, Bool.and_true, Bool.true_and, Bool.and_self, Int.cast_ofNat_Int, am_i_add, am_i_sub, am_i_mul, am_ok_i, am_i_cl, n_lt, n_le, n_eq, n_lt0, n_le0, n_0lt, n_0le, n_eq0, ne_eq, ↓reduceIte, not_true_eq_false, not_false_eq_true, and_true, true_and, and_false, false_and, eq_T, eq_F, lt_T, lt_F, le_T, le_F, qn_T, qn_F, and_F, b01_T, b01_F, e_isIn, Int32.toInt_toInt64, am_i_toInt, am_l_toInt, Int.toNat_natCast, Int.reduceToNat, Int.reduceAdd, Int.reduceSub, Int.reduceMul, Int.reduceNeg, Nat.reduceAdd, Nat.reduceMul, Nat.add_zero, Nat.mul_zero, Nat.zero_add, am_zb0, am_zb1, hE', h0', y1, y2, am_l_sub, sg_X12_qTold_162, am_i_s]
          exact g3
        · obtain ⟨w, u, r', rfl, h1, h1', h2⟩ := stT_2 hT
          have hl2 := stT_len h2
          have h0' : I 134 i = am_i (sgnM x) := h0
          have hsg : 10 ≤ sgnM x ∧ sgnM x ≤ 11 := by rcases hs with rfl | rfl <;> decide
          rw [List.length_cons] at h63'
          obtain ⟨v, g1, g2, g3⟩ := q_loop hm he hE hen he1 p (i + 1) _ (op2 x u w :: r') (mJI I r'.length) (am_up J 136 r'.length (am_l (op2 x u w))) hOK hWp h63' ⟨op2_t hs h1' h1, h2⟩ (mS1_u (mS1_u hf)) (frJ_u hj) (stB_u hA.2.2) am_up_e hi' hCp
          refine ⟨v, g1, g2, ?_⟩
          have e3 := fun d => m_joins (d := d) (I := I) (J := J) (L := r'.length) (s := x) hm (by omega) hL hA.1 hA.2.1 hWt h1'.1 h1'.2.1 h1.1 h1.2.1 (fun _ => ⟨h1'.2.2 rfl, h1.2.2 rfl⟩)
          rw [sg_X12_qTold_7]
          simp (disch := first | assumption | omega) only [rM hm, ly_csm, ly_cam, ly_cf, ly_kd, ly_ln, ↓Bool.cond_decide, cond_true, cond_false, ↓bI_p, ↓bV_p, ↓bL_p, bIJ_s, bVJ_s, bLJ_s, ↓am_let_s, Nat.blt, Nat.ble, Bool.and_true, Bool.true_and, Bool.and_self, Int.cast_ofNat_Int, am_i_add, am_i_sub, am_i_mul, am_ok_i, am_i_cl, n_lt, n_le, n_eq, n_lt0, n_le0, n_0lt, n_0le, n_eq0, ne_eq, ↓reduceIte, not_true_eq_false, not_false_eq_true, and_true, true_and, and_false, false_and, eq_T, eq_F, lt_T, lt_F, le_T, le_F, qn_T, qn_F, and_F, b01_T, b01_F, e_isIn, Int32.toInt_toInt64, am_i_toInt, am_l_toInt, Int.toNat_natCast, Int.reduceToNat, Int.reduceAdd, Int.reduceSub, Int.reduceMul, Int.reduceNeg, Nat.reduceAdd, Nat.reduceMul, Nat.add_zero, Nat.mul_zero, Nat.zero_add, am_zb0, am_zb1, hE', h0', e3, sg_X12_qTold_162, am_i_s]
          exact g3
        · obtain ⟨w, u, r', rfl, h1, h1', h2⟩ := stT_2 hT
          have hl2 := stT_len h2
          have h0' : I 134 i = am_i (sgnM x) := h0
          have hsg : 1 ≤ sgnM x ∧ sgnM x ≤ 11 := by unfold sgnM; split <;> omega
          rw [List.length_cons] at h63'
          obtain ⟨v, g1, g2, g3⟩ := q_loop hm he hE hen he1 p (i + 1) _ (op2 x u w :: r') (mJI I r'.length) (am_up J 136 r'.length (am_l (op2 x u w))) hOK hWp h63' ⟨op2_n hWt h1' h1, h2⟩ (mS1_u (mS1_u hf)) (frJ_u hj) (stB_u hA.2.2) am_up_e hi' hCp
          refine ⟨v, g1, g2, ?_⟩
          have e3 := fun d => m_joins (d := d) (I := I) (J := J) (L := r'.length) (s := x) hm (by omega) hL hA.1 hA.2.1 hWt h1'.1 h1'.2.1 h1.1 h1.2.1 (fun h => absurd h hs)
          rw [sg_X12_qTold_7]
          simp (disch := first | assumption | omega) only [rM hm, ly_csm, ly_cam, ly_cf, ly_kd, ly_ln, ↓Bool.cond_decide, cond_true, cond_false, ↓bI_p, ↓bV_p, ↓bL_p, bIJ_s, bVJ_s, bLJ_s, ↓am_let_s, Nat.blt, Nat.ble, Bool.and_true, Bool.true_and, Bool.and_self, Int.cast_ofNat_Int, am_i_add, am_i_sub, am_i_mul, am_ok_i, am_i_cl, n_lt, n_le, n_eq, n_lt0, n_le0, n_0lt, n_0le, n_eq0, ne_eq, ↓reduceIte, not_true_eq_false, not_false_eq_true, and_true, true_and, and_false, false_and, eq_T, eq_F, lt_T, lt_F, le_T, le_F, qn_T, qn_F, and_F, b01_T, b01_F, e_isIn, Int32.toInt_toInt64, am_i_toInt, am_l_toInt, Int.toNat_natCast, Int.reduceToNat, Int.reduceAdd, Int.reduceSub, Int.reduceMul, Int.reduceNeg, Nat.reduceAdd, Nat.reduceMul, Nat.add_zero, Nat.mul_zero, Nat.zero_add, am_zb0, am_zb1, hE', h0', e3, sg_X12_qTold_162, am_i_s]
          exact g3
        · have h0' : I 134 i = am_i 13 := h0
          rw [List.length_cons] at h63'
          obtain ⟨v, g1, g2, g3⟩ := q_loop hm he hE hen he1 p (i + 1) _ ((1 : Int) :: vs) (am_up I 64 101 (am_i (vs.length + 1 : Nat))) (am_up J 136 vs.length (am_l 1)) hOK hWp h63' ⟨⟨by omega, by omega, fun h => Or.inr rfl⟩, hT⟩ (mS1_u hf) (frJ_u hj) (stB_u hA) am_up_e hi' hCp
          refine ⟨v, g1, g2, ?_⟩
          have e2 := fun d v => m_puts (d := d) (J := J) (v := v) hm hL (by omega)
          rw [sg_X12_qTold_7]
          simp (disch := first | assumption | omega) only [rM hm, ly_csm, ly_cam, ly_cf, ly_kd, ly_ln, ↓Bool.cond_decide, cond_true, cond_false, ↓bI_p, ↓bV_p, ↓bL_p, bIJ_s, bVJ_s, bLJ_s, ↓am_let_s, Nat.blt, Nat.ble, Bool.and_true, Bool.true_and, Bool.and_self, Int.cast_ofNat_Int, am_i_add, am_i_sub, am_i_mul, am_ok_i, am_i_cl, n_lt, n_le, n_eq, n_lt0, n_le0, n_0lt, n_0le, n_eq0, ne_eq, ↓reduceIte, not_true_eq_false, not_false_eq_true, and_true, true_and, and_false, false_and, eq_T, eq_F, lt_T, lt_F, le_T, le_F, qn_T, qn_F, and_F, b01_T, b01_F, e_isIn, Int32.toInt_toInt64, am_i_toInt, am_l_toInt, Int.toNat_natCast, Int.reduceToNat, Int.reduceAdd, Int.reduceSub, Int.reduceMul, Int.reduceNeg, Nat.reduceAdd, Nat.reduceMul, Nat.add_zero, Nat.mul_zero, Nat.zero_add, am_zb0, am_zb1, hE', h0', e2, sg_X12_qTold_162, am_i_s]
          exact g3
        · obtain ⟨w, r', rfl, h1, h2⟩ := stT_1 hT
          have hl2 := stT_len h2
          obtain ⟨-, hx5⟩ := hWt
          obtain ⟨q1, q2, q3⟩ := he1 x w hx5 h1.1 h1.2.1
          have q3' := fun d => q3 d I J hf
          have cl : ∀ d M, am_E (d + 1) 278 0 [(0, .long (am_l (e1 x w)))] [] M = some (some (.long (am_l (e1 x w))), M) := fun d M => by
            have := m_clip (d := d) (M := M) (e1 x w) (by omega) (by omega)
            rw [cutZ_i q1 q2] at this
            exact this
          have y1 : I 64 101 - am_i 1 = am_i (r'.length : Int) := by
            rw [hL, am_i_sub]
            congr 1
            simp
          have y2 : J 136 r'.length = am_l w := hA.1
          rw [List.length_cons] at h63'
          obtain ⟨v, g1, g2, g3⟩ := q_loop hm he hE hen he1 p (i + 1) _ (e1 x w :: r') I (am_up J 136 r'.length (am_l (e1 x w))) hOK hWp h63' ⟨⟨q1, q2, fun h => by cases h⟩, h2⟩ hf (frJ_u hj) (stB_u hA.2) hL hi' hCp
          refine ⟨v, g1, g2, ?_⟩
          rcases hx5 with rfl | rfl
          · have h0' : I 134 i = am_i 60 := h0
            have q3'' : ∀ d, am_E (d + 3) 283 0 [(0, .ref 64), (1, .int (am_i 0)), (2, .long (am_l w)), (4, .int (am_i bb))] [] (I, J, R, 138) = some (some (.long (am_l (e1 9 w))), (I, J, R, 138)) := q3'
            rw [sg_X12_qTold_7]
            simp (disch := first | assumption | omega) only [rM hm, ly_csm, ly_cam, ly_cf, ly_kd, ly_ln, ↓Bool.cond_decide, cond_true, cond_false, ↓bI_p, ↓bV_p, ↓bL_p, bIJ_s, bVJ_s, bLJ_s, ↓am_let_s, Nat.blt, Nat.ble, Bool.and_true, Bool.true_and, Bool.and_self, Int.cast_ofNat_Int, am_i_add, am_i_sub, am_i_mul, am_ok_i, am_i_cl, n_lt, n_le, n_eq, n_lt0, n_le0, n_0lt, n_0le, n_eq0, ne_eq, ↓reduceIte, not_true_eq_false, not_false_eq_true, and_true, true_and, and_false, false_and, eq_T, eq_F, lt_T, lt_F, le_T, le_F, qn_T, qn_F, and_F, b01_T, b01_F, e_isIn, Int32.toInt_toInt64, am_i_toInt, am_l_toInt, Int.toNat_natCast, Int.reduceToNat, Int.reduceAdd, Int.reduceSub, Int.reduceMul, Int.reduceNeg, Nat.reduceAdd, Nat.reduceMul, Nat.add_zero, Nat.mul_zero, Nat.zero_add, am_zb0, am_zb1, hE', h0', y1, y2, q3'', cl, sg_X12_qTold_162, am_i_s]
            exact g3
          · have h0' : I 134 i = am_i 61 := h0
            have q3'' : ∀ d, am_E (d + 3) 283 0 [(0, .ref 64), (1, .int (am_i 1)), (2, .long (am_l w)), (4, .int (am_i bb))] [] (I, J, R, 138) = some (some (.long (am_l (e1 5 w))), (I, J, R, 138)) := q3'
            rw [sg_X12_qTold_7]
            simp (disch := first | assumption | omega) only [rM hm, ly_csm, ly_cam, ly_cf, ly_kd, ly_ln, ↓Bool.cond_decide, cond_true, cond_false, ↓bI_p, ↓bV_p, ↓bL_p, bIJ_s, bVJ_s, bLJ_s, ↓am_let_s, Nat.blt, Nat.ble, Bool.and_true, Bool.true_and, Bool.and_self, Int.cast_ofNat_Int, am_i_add, am_i_sub, am_i_mul, am_ok_i, am_i_cl, n_lt, n_le, n_eq, n_lt0, n_le0, n_0lt, n_0le, n_eq0, ne_eq, ↓reduceIte, not_true_eq_false, not_false_eq_true, and_true, true_and, and_false, false_and, eq_T, eq_F, lt_T, lt_F, le_T, le_F, qn_T, qn_F, and_F, b01_T, b01_F, e_isIn, Int32.toInt_toInt64, am_i_toInt, am_l_toInt, Int.toNat_natCast, Int.reduceToNat, Int.reduceAdd, Int.reduceSub, Int.reduceMul, Int.reduceNeg, Nat.reduceAdd, Nat.reduceMul, Nat.add_zero, Nat.mul_zero, Nat.zero_add, am_zb0, am_zb1, hE', h0', y1, y2, q3'', cl, sg_X12_qTold_162, am_i_s]
            exact g3
      · cases hOK
end QLOOP
