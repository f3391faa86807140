section MFAC2
variable {d D : Nat} {J : tJ} {R : tR} {T : Nat → Nat} {n so b b' z z' p o f : Nat} {W : List Nat} {C : List Int} {I I' I'' : tI} {was : Int32}
/-- a fact of the reference is the grammar's -/
theorem e_fact (hm : st_Rm R) (h : yS T n so b 0 p o W C I) (hW : ∀ w, W.head? = some w → w ≠ 1 ∧ w ≠ 2 ∧ w ≠ 3 ∧ w ≠ 4 ∧ w < 60) (hf : 10 * (n - p) + 3 + 1 ≤ f) : ∃ I', am_E (d + 9) 273 0 [(0, .ref 64)] [] (I, J, R, 138) = some (none, (I', J, R, 138)) ∧ ((pFa T n so f o p).1 = 0 → yS T n so b 0 (pFa T n so f o p).2.1 o W (C ++ List.map encM (pFa T n so f o p).2.2) I') ∧ ((pFa T n so f o p).1 ≠ 0 → yE T n so b 0 (pFa T n so f o p).1 (pFa T n so f o p).2.1 I') ∧ yN I I' := by
  have hp := h.2.2.2.1
  have hl := h.2.2.2.2.1
  have n16 := h.1.1
  obtain ⟨I1, t1, t2, t3, t4⟩ := m_takes (d := d + 5) (J := J) hm h.1 hp h.2.1 (q := 120) (by decide)
  rw [show wdQ 120 = 23 by decide] at t1 t2 t3
  by_cases q : tW T n p = 23
  · have e : pFa T n so f o p = pT (tE T n p) [(4, 0)] := if_pos q
    rw [e]
    have tb := tE_wd (c := 23) q hp
    have fr : ∀ a k, ¬ mlC a k → I1 a k = I a k := fun a k e => t4 a k (by unfold mlC at e; omega)
    have y1 := yS_m h (t2 q) fr (by omega) tb.2
    obtain ⟨I2, b1, b2, b3⟩ := yS_w (J := J) (c := 13) hm (yS_z (z' := 1) y1 (by omega))
    have q' : tW T n p = ((23 : Nat) : Int) := q
    rw [b01_t q'] at t1
    refine ⟨I2, ?_, fun _ => b2, fun c => absurd rfl c, yN_t (yN_m fr) b3⟩
    rw [sg_X12_qFact_0]
    simp (disch := first | assumption | omega) only [rM hm, ly_csm, ly_cam, ly_cf, ly_kd, ly_ln, ↓Bool.cond_decide, cond_true, cond_false, ↓bI_p, ↓bV_p, ↓bL_p, bIJ_s, bVJ_s, bLJ_s, ↓am_let_s, Nat.blt, Nat.ble, Bool.and_true, Bool.true_and, Bool.and_self, Int.cast_ofNat_Int, am_i_add, am_i_sub, am_i_mul, am_ok_i, am_i_cl, n_lt, n_le, n_eq, n_lt0, n_le0, n_0lt, n_0le, n_eq0, ne_eq, ↓reduceIte, not_true_eq_false, not_false_eq_true, and_true, true_and, and_false, false_and, eq_T, eq_F, lt_T, lt_F, le_T, le_F, qn_T, qn_F, and_F, b01_T, b01_F, e_isIn, Int32.toInt_toInt64, am_i_toInt, am_l_toInt, Int.toNat_natCast, Int.reduceToNat, Int.reduceAdd, Int.reduceSub, Int.reduceMul, Int.reduceNeg, Nat.reduceAdd, Nat.reduceMul, Nat.add_zero, Nat.mul_zero, Nat.zero_add, am_zb0, am_zb1, t1, b1]
  · have q' : ¬ tW T n p = ((23 : Nat) : Int) := q
    have e1 := t3 q'
    subst e1
    rw [b01_f q'] at t1
    have ha := yS_a h
    obtain ⟨I2, a1, a2, a3, a4⟩ := e_sums (d := d) (J := J) hm ha hW hf
    have ge := pG_e (T := T) (so := so) (f := f) (md := 3) (o := o) (p := p) (by omega) (yS_o6 h) hp (by show 10 * (n - p) + 3 + 1 ≤ f; omega)
    have e : pFa T n so f o p = pB (pG T n so f 3 o p) (fun p1 => if tSg T n p1 = 60 ∨ tSg T n p1 = 62 ∨ tSg T n p1 = 61 then pB (pG T n so f 3 o (tE T n p1)) (fun p2 => pT p2 [(3, (tSg T n p1).toNat)]) else (1, tAt T n p1, [])) := if_neg q
    rw [e]
    by_cases r0 : (pG T n so f 3 o p).1 = 0
    · rw [pB_0 r0]
      have y2 := a2 r0
      obtain ⟨g1, g2, g3⟩ := ge.2 r0
      have g1' : p + 1 ≤ (pG T n so f 3 o p).2.1 := g1
      generalize pG T n so f 3 o p = r1 at *
      have h5 := y2.2.1.2.1
      have lk := fun d => e_look (d := d) (J := J) hm y2.1 g2 y2.2.1
      have tb := tC_b (T := T) (n := n) (p := r1.2.1) (fun k hk => (y2.1.2.1 k hk).1)
      by_cases gs : tSg T n r1.2.1 = 60 ∨ tSg T n r1.2.1 = 62 ∨ tSg T n r1.2.1 = 61
      · rw [if_pos gs]
        have gk : ∃ g k : Nat, tSg T n r1.2.1 = g ∧ ((g = 60 ∧ k = 7) ∨ (g = 62 ∧ k = 8) ∨ (g = 61 ∧ k = 9)) ∧ List.map encM [(3, (tSg T n r1.2.1).toNat)] = [(k : Int)] := by
          rcases gs with c | c | c
          · exact ⟨60, 7, c, by omega, by rw [c]; rfl⟩
          · exact ⟨62, 8, c, by omega, by rw [c]; rfl⟩
          · exact ⟨61, 9, c, by omega, by rw [c]; rfl⟩
        obtain ⟨g, k, hg, hk, en⟩ := gk
        obtain ⟨I3, c1, c2, c3, c4⟩ := e_f63 (d := d) (J := J) hm y2 hW (f := f) (by omega) hg hk
        have qc : tC T n r1.2.1 = g := (tC_S (by rcases hk with ⟨rfl, -⟩ | ⟨rfl, -⟩ | ⟨rfl, -⟩ <;> decide) (by rcases hk with ⟨rfl, -⟩ | ⟨rfl, -⟩ | ⟨rfl, -⟩ <;> decide)).mpr hg
        refine ⟨I3, ?_, ?_, ?_, yN_t yN_a (yN_t a4 c4)⟩
        · rw [← c1, sg_X12_qFact_0]
          rcases hk with ⟨rfl, -⟩ | ⟨rfl, -⟩ | ⟨rfl, -⟩
          · have qc' : tC T n r1.2.1 = 60 := qc
            simp (disch := first | assumption | omega) only [rM hm, ly_csm, ly_cam, ly_cf, ly_kd, ly_ln, ↓Bool.cond_decide, cond_true, cond_false, ↓bI_p, ↓bV_p, ↓bL_p, bIJ_s, bVJ_s, bLJ_s, ↓am_let_s, Nat.blt, Nat.ble, Bool.and_true, Bool.true_and, Bool.and_self, Int.cast_ofNat_Int, am_i_add, am_i_sub, am_i_mul, am_ok_i, am_i_cl, n_lt, n_le, n_eq, n_lt0, n_le0, n_0lt, n_0le, n_eq0, ne_eq, ↓reduceIte, not_true_eq_false, not_false_eq_true, and_true, true_and, and_false, false_and, eq_T, eq_F, lt_T, lt_F, le_T, le_F, qn_T, qn_F, and_F, b01_T, b01_F, e_isIn, Int32.toInt_toInt64, am_i_toInt, am_l_toInt, Int.toNat_natCast, Int.reduceToNat, Int.reduceAdd, Int.reduceSub, Int.reduceMul, Int.reduceNeg, Nat.reduceAdd, Nat.reduceMul, Nat.add_zero, Nat.mul_zero, Nat.zero_add, am_zb0, am_zb1, t1, a1, h5, lk, qc']
          · have qc' : tC T n r1.2.1 = 62 := qc
            simp (disch := first | assumption | omega) only [rM hm, ly_csm, ly_cam, ly_cf, ly_kd, ly_ln, ↓Bool.cond_decide, cond_true, cond_false, ↓bI_p, ↓bV_p, ↓bL_p, bIJ_s, bVJ_s, bLJ_s, ↓am_let_s, Nat.blt, Nat.ble, Bool.and_true, Bool.true_and, Bool.and_self, Int.cast_ofNat_Int, am_i_add, am_i_sub, am_i_mul, am_ok_i, am_i_cl, n_lt, n_le, n_eq, n_lt0, n_le0, n_0lt, n_0le, n_eq0, ne_eq, ↓reduceIte, not_true_eq_false, not_false_eq_true, and_true, true_and, and_false, false_and, eq_T, eq_F, lt_T, lt_F, le_T, le_F, qn_T, qn_F, and_F, b01_T, b01_F, e_isIn, Int32.toInt_toInt64, am_i_toInt, am_l_toInt, Int.toNat_natCast, Int.reduceToNat, Int.reduceAdd, Int.reduceSub, Int.reduceMul, Int.reduceNeg, Nat.reduceAdd, Nat.reduceMul, Nat.add_zero, Nat.mul_zero, Nat.zero_add, am_zb0, am_zb1, t1, a1, h5, lk, qc']
          · have qc' : tC T n r1.2.1 = 61 := qc
            simp (disch := first | assumption | omega) only [rM hm, ly_csm, ly_cam, ly_cf, ly_kd, ly_ln, ↓Bool.cond_decide, cond_true, cond_false, ↓bI_p, ↓bV_p, ↓bL_p, bIJ_s, bVJ_s, bLJ_s, ↓am_let_s, Nat.blt, Nat.ble, Bool.and_true, Bool.true_and, Bool.and_self, Int.cast_ofNat_Int, am_i_add, am_i_sub, am_i_mul, am_ok_i, am_i_cl, n_lt, n_le, n_eq, n_lt0, n_le0, n_0lt, n_0le, n_eq0, ne_eq, ↓reduceIte, not_true_eq_false, not_false_eq_true, and_true, true_and, and_false, false_and, eq_T, eq_F, lt_T, lt_F, le_T, le_F, qn_T, qn_F, and_F, b01_T, b01_F, e_isIn, Int32.toInt_toInt64, am_i_toInt, am_l_toInt, Int.toNat_natCast, Int.reduceToNat, Int.reduceAdd, Int.reduceSub, Int.reduceMul, Int.reduceNeg, Nat.reduceAdd, Nat.reduceMul, Nat.add_zero, Nat.mul_zero, Nat.zero_add, am_zb0, am_zb1, t1, a1, h5, lk, qc']
        · generalize pG T n so f 3 o (tE T n r1.2.1) = r2 at *
          intro e
          by_cases r20 : r2.1 = 0
          · have y := c2 r20
            rw [pB_0 r20]
            show yS T n so b 0 r2.2.1 o W (C ++ List.map encM (r1.2.2 ++ (r2.2.2 ++ [(3, (tSg T n r1.2.1).toNat)]))) I3
            rw [List.map_append, List.map_append, en, ← List.append_assoc, ← List.append_assoc]
            exact y
          · rw [pB_n r20] at e
            exact absurd e r20
        · generalize pG T n so f 3 o (tE T n r1.2.1) = r2 at *
          intro e
          by_cases r20 : r2.1 = 0
          · rw [pB_0 r20] at e
            exact absurd rfl e
          · rw [pB_n r20]
            exact c3 r20
      · rw [if_neg gs]
        have hy := yS_a y2
        have h5a := hy.2.1.2.1
        have n60 : ¬ tC T n r1.2.1 = 60 := fun c => gs (Or.inl ((tC_S (T := T) (n := n) (p := r1.2.1) (c := 60) (by decide) (by decide)).mp c))
        have n62 : ¬ tC T n r1.2.1 = 62 := fun c => gs (Or.inr (Or.inl ((tC_S (T := T) (n := n) (p := r1.2.1) (c := 62) (by decide) (by decide)).mp c)))
        have n61 : ¬ tC T n r1.2.1 = 61 := fun c => gs (Or.inr (Or.inr ((tC_S (T := T) (n := n) (p := r1.2.1) (c := 61) (by decide) (by decide)).mp c)))
        have at2 : atP T n r1.2.1 I2 64 2 = am_i (tAt T n r1.2.1) := atP_2
        have fl := fun d => m_fail (d := d) (J := J) (R := R) (I := atP T n r1.2.1 I2) (v := am_i 1) (w := am_i (tAt T n r1.2.1)) hm h5a
        have fr : ∀ q k, ¬ mlC q k → am_up (am_up (atP T n r1.2.1 I2) 64 5 (am_i 1)) 64 6 (am_i (tAt T n r1.2.1)) q k = atP T n r1.2.1 I2 q k := fun q k e => by unfold mlC at e; rw [am_up_o (by omega), am_up_o (by omega)]
        refine ⟨_, ?_, fun c => absurd (show (1 : Nat) = 0 from c) (by decide), fun _ => yE_m hy (by omega) (by omega) (by rw [am_up_o (by omega), am_up_e]; rfl) am_up_e fr, yN_t yN_a (yN_t a4 (yN_t yN_a (yN_m fr)))⟩
        rw [sg_X12_qFact_0]
        simp (disch := first | assumption | omega) only [rM hm, ly_csm, ly_cam, ly_cf, ly_kd, ly_ln, ↓Bool.cond_decide, cond_true, cond_false, ↓bI_p, ↓bV_p, ↓bL_p, bIJ_s, bVJ_s, bLJ_s, ↓am_let_s, Nat.blt, Nat.ble, Bool.and_true, Bool.true_and, Bool.and_self, Int.cast_ofNat_Int, am_i_add, am_i_sub, am_i_mul, am_ok_i, am_i_cl, n_lt, n_le, n_eq, n_lt0, n_le0, n_0lt, n_0le, n_eq0, ne_eq, ↓reduceIte, not_true_eq_false, not_false_eq_true, and_true, true_and, and_false, false_and, eq_T, eq_F, lt_T, lt_F, le_T, le_F, qn_T, qn_F, and_F, b01_T, b01_F, e_isIn, Int32.toInt_toInt64, am_i_toInt, am_l_toInt, Int.toNat_natCast, Int.reduceToNat, Int.reduceAdd, Int.reduceSub, Int.reduceMul, Int.reduceNeg, Nat.reduceAdd, Nat.reduceMul, Nat.add_zero, Nat.mul_zero, Nat.zero_add, am_zb0, am_zb1, t1, a1, h5, lk, at2, fl]
    · rw [pB_n r0]
      have h5 := yE_5 (a3 r0)
      refine ⟨I2, ?_, fun c => absurd c r0, a3, yN_t yN_a a4⟩
      rw [sg_X12_qFact_0]
      simp (disch := first | assumption | omega) only [rM hm, ly_csm, ly_cam, ly_cf, ly_kd, ly_ln, ↓Bool.cond_decide, cond_true, cond_false, ↓bI_p, ↓bV_p, ↓bL_p, bIJ_s, bVJ_s, bLJ_s, ↓am_let_s, Nat.blt, Nat.ble, Bool.and_true, Bool.true_and, Bool.and_self, Int.cast_ofNat_Int, am_i_add, am_i_sub, am_i_mul, am_ok_i, am_i_cl, n_lt, n_le, n_eq, n_lt0, n_le0, n_0lt, n_0le, n_eq0, ne_eq, ↓reduceIte, not_true_eq_false, not_false_eq_true, and_true, true_and, and_false, false_and, eq_T, eq_F, lt_T, lt_F, le_T, le_F, qn_T, qn_F, and_F, b01_T, b01_F, e_isIn, Int32.toInt_toInt64, am_i_toInt, am_l_toInt, Int.toNat_natCast, Int.reduceToNat, Int.reduceAdd, Int.reduceSub, Int.reduceMul, Int.reduceNeg, Nat.reduceAdd, Nat.reduceMul, Nat.add_zero, Nat.mul_zero, Nat.zero_add, am_zb0, am_zb1, t1, a1, h5]
end MFAC2
