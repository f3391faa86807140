/-! ===== the class's modes, one by one ===== -/
section XMD
variable {J : tJ} {R : tR} {T : Nat → Nat} {n so f : Nat}
theorem pB_bb {r : pR} {k g : Nat → pR} : pB (pB r k) g = pB r (fun p1 => pB (k p1) g) := by
  by_cases q : r.1 = 0
  · rw [pB_0 q, pB_0 q]
    by_cases q2 : (k r.2.1).1 = 0
    · rw [pB_0 (r := ((k r.2.1).1, (k r.2.1).2.1, r.2.2 ++ (k r.2.1).2.2)) q2, pB_0 q2]
      show (_, _, (r.2.2 ++ (k r.2.1).2.2) ++ _) = (_, _, r.2.2 ++ ((k r.2.1).2.2 ++ _))
      rw [List.append_assoc]
    · rw [pB_n (r := ((k r.2.1).1, (k r.2.1).2.1, r.2.2 ++ (k r.2.1).2.2)) q2, pB_n q2]
  · rw [pB_n q, pB_n q, pB_n q]
theorem x_m0 (hx : st_Rx R) (hso : so ≤ 3) (ih : xGs J R T n so f) {o p e sz ac : Nat} {I : tI} (ho : o ≤ 6) (hp : p ≤ n) (hf : 10 * (n - p) + 0 + 1 ≤ f + 1) (he : 10 * (6 - o) + 9 ≤ e) (hT : txX T n I R) (hs : scX T n p I) (hF : fS so o sz ac I) (hsz : sz ≤ p) (hac : ac ≤ 1) : ∃ I', am_E e 26 0 [(0, .ref 8)] [] (I, J, R, 138) = some (none, (I', J, R, 138)) ∧ xP T n o sz ac (pG T n so (f + 1) 0 o p) I I' := by
  obtain ⟨d, rfl⟩ : ∃ d, e = d + 9 := ⟨e - 9, by omega⟩
  have n1 := hT.1
  have ab := tAt_b (T := T) hp
  have vp := vw_p hT hs
  have wb := tW_b (T := T) (n := n) (p := p)
  have wh := fun d => e_wordHere (d := d) (J := J) (R := R) vp
  have nm := fun d => e_isNum (d := d) (J := J) (R := R) vp
  have sg : ∀ d, am_E (d + 1) 81 0 [(0, .ref 5), (1, .int (am_i 40))] [] (I, J, R, 138) = _ := fun d => e_isSign (d := d) (J := J) (R := R) vp (c := 40) (by omega)
  have f5 := hF.2.2.2
  have iv := fun d => e_isVal (d := d) (J := J) (R := R) (W := tW T n p) hso f5 wb.1 wb.2
  show ∃ I', _ ∧ xP T n o sz ac (if tK T n p = 2 then _ else _) I I'
  by_cases k2 : tK T n p = 2
  · rw [if_pos k2]
    have es := tE_s hp (show tK T n p ≠ 0 by omega)
    obtain ⟨I1, a1, a2, a3⟩ := x_needNumber (d := d + 3) (J := J) hx hT hp hs (lo := 0) (hi := 9999) (by omega) (by omega)
    have h0 := xP_0 hF (by omega) hac a2 a3
    by_cases q : (aN T n p 0 9999).1 = 0
    · rw [if_pos q] at a1
      have a1' : am_E (d + 8) 87 0 [(0, .ref 5), (1, .int (am_i 0)), (2, .int (am_i 9999))] [] (I, J, R, 138) = _ := a1
      obtain ⟨I2, b1, b2, -⟩ := xP_E (J := J) hx hac (t := (0, tV T n p)) (by intro e; cases e) (fun _ => by show sz + 0 < 1600; omega) h0
      have b1' : ∀ d, am_E (d + 1) 18 0 [(0, .ref 8), (1, .int (am_i (tV T n p)))] [] (I1, J, R, 138) = _ := b1
      refine ⟨I2, ?_, ?_⟩
      · rw [sg_X3_part_0]
        simp (disch := first | assumption | omega) only [rX hx, ly_csx, ly_cax, ly_cf, ly_kd, ly_ln, ↓Bool.cond_decide, cond_true, cond_false, ↓bI_p, ↓bV_p, ↓bL_p, bIJ_s, bVJ_s, bLJ_s, ↓am_let_s, Nat.blt, Nat.ble, Bool.and_true, Bool.true_and, Bool.and_self, Int.cast_ofNat_Int, am_i_add, am_i_sub, am_i_mul, am_ok_i, am_i_cl, n_lt, n_le, n_eq, n_lt0, n_le0, n_0lt, n_0le, n_eq0, ne_eq, ↓reduceIte, not_true_eq_false, not_false_eq_true, and_true, true_and, and_false, false_and, eq_T, eq_F, lt_T, lt_F, le_T, le_F, qn_T, qn_F, and_F, b01_T, b01_F, e_isIn, Int32.toInt_toInt64, am_i_toInt, am_l_toInt, Int.toNat_natCast, Int.reduceToNat, Int.reduceAdd, Int.reduceSub, Int.reduceMul, Int.reduceNeg, Nat.reduceAdd, Nat.reduceMul, Nat.add_zero, Nat.mul_zero, Nat.zero_add, am_zb0, am_zb1, wh, nm, b01_t k2, a1', b1', sg_X3_part_207]
      · have ee : pB (pA (aN T n p 0 9999)) (fun p1 => pT p1 [(0, tV T n p)]) = ((aN T n p 0 9999).1, (aN T n p 0 9999).2, [(0, tV T n p)]) := by
          rw [pB_0 q]
          show (0, (aN T n p 0 9999).2, [(0, tV T n p)]) = _
          rw [q]
        rw [← ee]
        exact b2
    · rw [if_neg q] at a1
      have a1' : am_E (d + 8) 87 0 [(0, .ref 5), (1, .int (am_i 0)), (2, .int (am_i 9999))] [] (I, J, R, 138) = some (some (.int (am_i 0)), (I1, J, R, 138)) := a1
      obtain ⟨I2, b1, b2, b3, -⟩ := x_emitF (J := J) (v := am_i 0) hx (h0.2.1 q)
      refine ⟨I2, ?_, xP_e q b2 (frF_t h0.2.2 b3)⟩
      rw [sg_X3_part_0]
      simp (disch := first | assumption | omega) only [rX hx, ly_csx, ly_cax, ly_cf, ly_kd, ly_ln, ↓Bool.cond_decide, cond_true, cond_false, ↓bI_p, ↓bV_p, ↓bL_p, bIJ_s, bVJ_s, bLJ_s, ↓am_let_s, Nat.blt, Nat.ble, Bool.and_true, Bool.true_and, Bool.and_self, Int.cast_ofNat_Int, am_i_add, am_i_sub, am_i_mul, am_ok_i, am_i_cl, n_lt, n_le, n_eq, n_lt0, n_le0, n_0lt, n_0le, n_eq0, ne_eq, ↓reduceIte, not_true_eq_false, not_false_eq_true, and_true, true_and, and_false, false_and, eq_T, eq_F, lt_T, lt_F, le_T, le_F, qn_T, qn_F, and_F, b01_T, b01_F, e_isIn, Int32.toInt_toInt64, am_i_toInt, am_l_toInt, Int.toNat_natCast, Int.reduceToNat, Int.reduceAdd, Int.reduceSub, Int.reduceMul, Int.reduceNeg, Nat.reduceAdd, Nat.reduceMul, Nat.add_zero, Nat.mul_zero, Nat.zero_add, am_zb0, am_zb1, wh, nm, b01_t k2, a1', b1, sg_X3_part_207]
  · rw [if_neg k2]
    by_cases s40 : tSg T n p = 40
    · rw [if_pos s40]
      have s40' : tSg T n p = ((40 : Nat) : Int) := s40
      have es := tE_s hp (tSg_0 (T := T) (n := n) (p := p) (by omega))
      by_cases o6 : 6 ≤ o
      · rw [if_pos o6]
        have o6' : o = 6 := by omega
        have op := fun d => x_opens6 (d := d) (J := J) (R := R) hx hs hF o6'
        obtain ⟨c1, c2⟩ := fl_ft (so := so) (e := 4) (pl := tAt T n p) hF (by omega) hac
        refine ⟨_, ?_, xP_e (by omega) c1 c2⟩
        rw [sg_X3_part_0]
        simp (disch := first | assumption | omega) only [rX hx, ly_csx, ly_cax, ly_cf, ly_kd, ly_ln, ↓Bool.cond_decide, cond_true, cond_false, ↓bI_p, ↓bV_p, ↓bL_p, bIJ_s, bVJ_s, bLJ_s, ↓am_let_s, Nat.blt, Nat.ble, Bool.and_true, Bool.true_and, Bool.and_self, Int.cast_ofNat_Int, am_i_add, am_i_sub, am_i_mul, am_ok_i, am_i_cl, n_lt, n_le, n_eq, n_lt0, n_le0, n_0lt, n_0le, n_eq0, ne_eq, ↓reduceIte, not_true_eq_false, not_false_eq_true, and_true, true_and, and_false, false_and, eq_T, eq_F, lt_T, lt_F, le_T, le_F, qn_T, qn_F, and_F, b01_T, b01_F, e_isIn, Int32.toInt_toInt64, am_i_toInt, am_l_toInt, Int.toNat_natCast, Int.reduceToNat, Int.reduceAdd, Int.reduceSub, Int.reduceMul, Int.reduceNeg, Nat.reduceAdd, Nat.reduceMul, Nat.add_zero, Nat.mul_zero, Nat.zero_add, am_zb0, am_zb1, wh, nm, b01_f k2, sg, b01_t s40', op, sg_X3_part_207]
      · rw [if_neg o6]
        obtain ⟨I1, a1, a2, a3, a4, a5⟩ := x_opens (d := d + 3) (J := J) hx hT hp hs hF (by omega) (tSg_4 (T := T) (n := n) (p := p) (by omega))
        have fr1 : frF I I1 := ⟨by rw [a4.2.2.2, f5], fun q j x y z => a5 q j x y⟩
        obtain ⟨I2, b1, b2⟩ := ih 3 (o + 1) (tE T n p) (d + 8) sz ac 0 I1 (by omega) (by omega) es.2 (by show 10 * (n - tE T n p) + 3 + 1 ≤ f; omega) (by show 10 * (6 - (o + 1)) + 11 ≤ d + 8; omega) (txX_f hT fr1) a2 a4 (by omega) hac (by omega)
        have b1' : am_E (d + 8) 24 0 [(0, .ref 8)] [] (I1, J, R, 138) = some (none, (I2, J, R, 138)) := b1
        have ge := pG_e (T := T) (so := so) (f := f) (md := 3) (o := o + 1) (p := tE T n p) (by omega) (by omega) es.2 (by show 10 * (n - tE T n p) + 3 + 1 ≤ f; omega)
        obtain ⟨I3, c1, c2, c3⟩ := xP_S (d := d + 3) (J := J) (c := 41) hx (by omega) (txX_f hT fr1) (fun q => ⟨(ge.2 q).2.1, by have := ge.2 q; omega⟩) (by omega) b2
        have c1' : am_E (d + 8) 85 0 [(0, .ref 5), (1, .int (am_i 41))] [] (I2, J, R, 138) = some (none, (I3, J, R, 138)) := c1
        refine ⟨am_up I3 8 4 (I3 8 4 - am_i 1), ?_, xP_s a3 (fun k => a5 _ _ (by omega) (by omega)) fr1 (xP_o c2)⟩
        rw [sg_X3_part_0]
        simp (disch := first | assumption | omega) only [rX hx, ly_csx, ly_cax, ly_cf, ly_kd, ly_ln, ↓Bool.cond_decide, cond_true, cond_false, ↓bI_p, ↓bV_p, ↓bL_p, bIJ_s, bVJ_s, bLJ_s, ↓am_let_s, Nat.blt, Nat.ble, Bool.and_true, Bool.true_and, Bool.and_self, Int.cast_ofNat_Int, wh, nm, b01_f k2, sg, b01_t s40', b01_t s40, am0z, am1z, a1, b1', c1', sg_X3_part_207, ne_eq, not_true_eq_false, not_false_eq_true, ↓reduceIte]
    · rw [if_neg s40]
      have s40' : ¬ tSg T n p = ((40 : Nat) : Int) := s40
      by_cases w24 : tW T n p = 24 ∨ tW T n p = 25
      · rw [if_pos w24]
        have es := tE_s hp (tW_0 (T := T) (n := n) (p := p) (by omega))
        have ab2 := tAt_b (T := T) es.2
        obtain ⟨w, hw⟩ : ∃ w : Nat, tW T n p = w := ⟨(tW T n p).toNat, by omega⟩
        have e93 : am_E (d + 9) 26 0 [(0, .ref 8)] [] (I, J, R, 138) = am_E (d + 9) 26 93 [(0, .ref 8), (1, .int (am_i w))] [] (I, J, R, 138) := by
          rw [sg_X3_part_0]
          rw [hw] at wh
          by_cases w4 : w = 24
          · simp (disch := first | assumption | omega) only [rX hx, ly_csx, ly_cax, ly_cf, ly_kd, ly_ln, ↓Bool.cond_decide, cond_true, cond_false, ↓bI_p, ↓bV_p, ↓bL_p, bIJ_s, bVJ_s, bLJ_s, ↓am_let_s, Nat.blt, Nat.ble, Bool.and_true, Bool.true_and, Bool.and_self, Int.cast_ofNat_Int, am_i_add, am_i_sub, am_i_mul, am_ok_i, am_i_cl, n_lt, n_le, n_eq, n_lt0, n_le0, n_0lt, n_0le, n_eq0, ne_eq, ↓reduceIte, not_true_eq_false, not_false_eq_true, and_true, true_and, and_false, false_and, eq_T, eq_F, lt_T, lt_F, le_T, le_F, qn_T, qn_F, and_F, b01_T, b01_F, e_isIn, Int32.toInt_toInt64, am_i_toInt, am_l_toInt, Int.toNat_natCast, Int.reduceToNat, Int.reduceAdd, Int.reduceSub, Int.reduceMul, Int.reduceNeg, Nat.reduceAdd, Nat.reduceMul, Nat.add_zero, Nat.mul_zero, Nat.zero_add, am_zb0, am_zb1, wh, nm, b01_f k2, sg, b01_f s40']
          · simp (disch := first | assumption | omega) only [rX hx, ly_csx, ly_cax, ly_cf, ly_kd, ly_ln, ↓Bool.cond_decide, cond_true, cond_false, ↓bI_p, ↓bV_p, ↓bL_p, bIJ_s, bVJ_s, bLJ_s, ↓am_let_s, Nat.blt, Nat.ble, Bool.and_true, Bool.true_and, Bool.and_self, Int.cast_ofNat_Int, am_i_add, am_i_sub, am_i_mul, am_ok_i, am_i_cl, n_lt, n_le, n_eq, n_lt0, n_le0, n_0lt, n_0le, n_eq0, ne_eq, ↓reduceIte, not_true_eq_false, not_false_eq_true, and_true, true_and, and_false, false_and, eq_T, eq_F, lt_T, lt_F, le_T, le_F, qn_T, qn_F, and_F, b01_T, b01_F, e_isIn, Int32.toInt_toInt64, am_i_toInt, am_l_toInt, Int.toNat_natCast, Int.reduceToNat, Int.reduceAdd, Int.reduceSub, Int.reduceMul, Int.reduceNeg, Nat.reduceAdd, Nat.reduceMul, Nat.add_zero, Nat.mul_zero, Nat.zero_add, am_zb0, am_zb1, wh, nm, b01_f k2, sg, b01_f s40']
        obtain ⟨I1, a1, a2, a3, a4⟩ := x_go (d := d + 3) (J := J) hx hT hp hs (tW_4 (T := T) (n := n) (p := p) (by omega))
        have fr1 : frF I I1 := frF_5 a4
        have hT1 := txX_f hT fr1
        have hF1 : fS so o sz ac I1 := ⟨by rw [a4 _ _ (by omega)]; exact hF.1, by rw [a4 _ _ (by omega)]; exact hF.2.1, by rw [a4 _ _ (by omega)]; exact hF.2.2.1, by rw [a4 _ _ (by omega)]; exact hF.2.2.2⟩
        have sg1 : ∀ d, am_E (d + 1) 81 0 [(0, .ref 5), (1, .int (am_i 40))] [] (I1, J, R, 138) = _ := fun d => e_isSign (d := d) (J := J) (R := R) (vw_p hT1 a2) (c := 40) (by omega)
        rw [e93, hw]
        by_cases s41 : tSg T n (tE T n p) = 40
        · rw [if_pos s41]
          have s41' : tSg T n (tE T n p) = ((40 : Nat) : Int) := s41
          have es2 := tE_s es.2 (tSg_0 (T := T) (n := n) (p := tE T n p) (by omega))
          by_cases o6 : 6 ≤ o
          · rw [if_pos o6]
            have op := fun d => x_opens6 (d := d) (J := J) (R := R) hx a2 hF1 (by omega)
            obtain ⟨c1, c2⟩ := fl_ft (so := so) (e := 4) (pl := tAt T n (tE T n p)) hF1 (by omega) hac
            refine ⟨_, ?_, xP_e (by omega) c1 (frF_t fr1 c2)⟩
            have a1' : am_E (d + 7) 73 0 [(0, .ref 5)] [] (I, J, R, 138) = some (none, (I1, J, R, 138)) := a1
            rw [sg_X3_part_93]
            simp (disch := first | assumption | omega) only [rX hx, ly_csx, ly_cax, ly_cf, ly_kd, ly_ln, ↓Bool.cond_decide, cond_true, cond_false, ↓bI_p, ↓bV_p, ↓bL_p, bIJ_s, bVJ_s, bLJ_s, ↓am_let_s, Nat.blt, Nat.ble, Bool.and_true, Bool.true_and, Bool.and_self, Int.cast_ofNat_Int, am_i_add, am_i_sub, am_i_mul, am_ok_i, am_i_cl, n_lt, n_le, n_eq, n_lt0, n_le0, n_0lt, n_0le, n_eq0, ne_eq, ↓reduceIte, not_true_eq_false, not_false_eq_true, and_true, true_and, and_false, false_and, eq_T, eq_F, lt_T, lt_F, le_T, le_F, qn_T, qn_F, and_F, b01_T, b01_F, e_isIn, Int32.toInt_toInt64, am_i_toInt, am_l_toInt, Int.toNat_natCast, Int.reduceToNat, Int.reduceAdd, Int.reduceSub, Int.reduceMul, Int.reduceNeg, Nat.reduceAdd, Nat.reduceMul, Nat.add_zero, Nat.mul_zero, Nat.zero_add, am_zb0, am_zb1, sg_X3_pair_0, a1', sg1, b01_t s41', op, sg_X3_pair_81, sg_X3_part_207]
          · rw [if_neg o6]
            obtain ⟨I2, b1, b2, b3, b4, b5⟩ := x_opens (d := d + 2) (J := J) hx hT1 es.2 a2 hF1 (by omega) (tSg_4 (T := T) (n := n) (p := tE T n p) (by omega))
            have fr2 : frF I1 I2 := ⟨by rw [b4.2.2.2, hF1.2.2.2], fun q j x y z => b5 q j x y⟩
            have hf1 : 10 * (n - tE T n (tE T n p)) + 3 + 1 ≤ f := by omega
            obtain ⟨I3, c1, c2⟩ := ih 3 (o + 1) (tE T n (tE T n p)) (d + 7) sz ac 0 I2 (by omega) (by omega) es2.2 hf1 (by show 10 * (6 - (o + 1)) + 11 ≤ d + 7; omega) (txX_f hT1 fr2) b2 b4 (by omega) hac (by omega)
            have ge := pG_e (T := T) (so := so) (f := f) (md := 3) (o := o + 1) (p := tE T n (tE T n p)) (by omega) (by omega) es2.2 hf1
            obtain ⟨I4, d1, d2, d3⟩ := xP_S (d := d + 2) (J := J) (c := 44) hx (by omega) (txX_f hT1 fr2) (fun q => ⟨(ge.2 q).2.1, by have := ge.2 q; omega⟩) (by omega) c2
            have a1' : am_E (d + 7) 73 0 [(0, .ref 5)] [] (I, J, R, 138) = some (none, (I1, J, R, 138)) := a1
            have b1' : am_E (d + 7) 19 0 [(0, .ref 8)] [] (I1, J, R, 138) = some (some (.int (am_i 1)), (I2, J, R, 138)) := b1
            have c1' : am_E (d + 7) 24 0 [(0, .ref 8)] [] (I2, J, R, 138) = some (none, (I3, J, R, 138)) := c1
            have d1' : am_E (d + 7) 85 0 [(0, .ref 5), (1, .int (am_i 44))] [] (I3, J, R, 138) = some (none, (I4, J, R, 138)) := d1
            -- the second sum, or none behind a failure
            have key : ∃ I5 I6, am_E (d + 7) 24 0 [(0, .ref 8)] [] (I4, J, R, 138) = some (none, (I5, J, R, 138)) ∧ am_E (d + 7) 85 0 [(0, .ref 5), (1, .int (am_i 41))] [] (I5, J, R, 138) = some (none, (I6, J, R, 138)) ∧ xP T n (o + 1) sz ac (pB (pB (pG T n so f 3 (o + 1) (tE T n (tE T n p))) (fun p1 => pA (aS T n p1 44))) (fun p2 => pB (pG T n so f 3 (o + 1) p2) (fun p3 => pA (aS T n p3 41)))) I2 I6 ∧ ((pB (pB (pG T n so f 3 (o + 1) (tE T n (tE T n p))) (fun p1 => pA (aS T n p1 44))) (fun p2 => pB (pG T n so f 3 (o + 1) p2) (fun p3 => pA (aS T n p3 41)))).1 = 0 → sz + (pB (pB (pG T n so f 3 (o + 1) (tE T n (tE T n p))) (fun p1 => pA (aS T n p1 44))) (fun p2 => pB (pG T n so f 3 (o + 1) p2) (fun p3 => pA (aS T n p3 41)))).2.2.length < 1600) := by
              generalize hr : pB (pG T n so f 3 (o + 1) (tE T n (tE T n p))) (fun p1 => pA (aS T n p1 44)) = r at d2 ⊢
              have rb : r.1 < 9 ∧ (r.1 = 0 → tE T n (tE T n p) < r.2.1 ∧ r.2.1 ≤ n ∧ r.2.2.length + tE T n (tE T n p) ≤ r.2.1) := by
                by_cases q : (pG T n so f 3 (o + 1) (tE T n (tE T n p))).1 = 0
                · obtain ⟨g1, g2, g3⟩ := ge.2 q
                  have sb := aS_b (T := T) (c := 44) g2
                  rw [← hr, pB_0 q]
                  refine ⟨by show (aS T n _ 44).1 < 9; omega, fun e => ?_⟩
                  obtain ⟨s1, s2, s3, s4⟩ := sb.1 e
                  refine ⟨by show _ < (aS T n _ 44).2; omega, s4, ?_⟩
                  show ((pG T n so f 3 (o + 1) (tE T n (tE T n p))).2.2 ++ []).length + _ ≤ (aS T n _ 44).2
                  rw [List.append_nil]
                  omega
                · rw [← hr, pB_n q]
                  exact ⟨ge.1, fun e => absurd e q⟩
              by_cases q : r.1 = 0
              · obtain ⟨r1, r2, r3⟩ := rb.2 q
                obtain ⟨u1, u2, u3, u4, u5, u6, u7⟩ := d2.1 q
                have hf2 : 10 * (n - r.2.1) + 3 + 1 ≤ f := by omega
                obtain ⟨I5, v1, v2⟩ := ih 3 (o + 1) r.2.1 (d + 7) (sz + r.2.2.length) (acS ac r.2.2) 0 I4 (by omega) (by omega) r2 hf2 (by show 10 * (6 - (o + 1)) + 11 ≤ d + 7; omega) (txX_f (txX_f hT1 fr2) d2.2.2) u1 (xP_f b4 d2 q) (by omega) acS_b (by omega)
                have ge2 := pG_e (T := T) (so := so) (f := f) (md := 3) (o := o + 1) (p := r.2.1) (by omega) (by omega) r2 hf2
                obtain ⟨I6, x1, x2, x3⟩ := xP_S (d := d + 2) (J := J) (c := 41) hx (by omega) (txX_f (txX_f hT1 fr2) d2.2.2) (fun q => ⟨(ge2.2 q).2.1, by have := ge2.2 q; omega⟩) (by omega) v2
                refine ⟨I5, I6, v1, x1, xP_t q d2 x2, fun e => ?_⟩
                rw [pB_0 q] at e ⊢
                by_cases q2 : (pG T n so f 3 (o + 1) r.2.1).1 = 0
                · obtain ⟨g1, g2, g3⟩ := ge2.2 q2
                  have g1' : r.2.1 + 1 ≤ (pG T n so f 3 (o + 1) r.2.1).2.1 := g1
                  have e2 : (pB (pG T n so f 3 (o + 1) r.2.1) (fun p3 => pA (aS T n p3 41))).2.2 = (pG T n so f 3 (o + 1) r.2.1).2.2 := by
                    rw [pB_0 q2]
                    show _ ++ [] = _
                    rw [List.append_nil]
                  show sz + (r.2.2 ++ (pB (pG T n so f 3 (o + 1) r.2.1) (fun p3 => pA (aS T n p3 41))).2.2).length < 1600
                  rw [e2, List.length_append]
                  omega
                · have e' : (pB (pG T n so f 3 (o + 1) r.2.1) (fun p3 => pA (aS T n p3 41))).1 = 0 := e
                  rw [pB_n q2] at e'
                  exact absurd e' q2
              · have ft := d2.2.1 q
                have f5' : I4 8 5 = am_i so := by rw [d2.2.2.1]; exact b4.2.2.2
                have sf := x_sumF (d := d + 2) (J := J) (R := R) hx hso f5' ft.1 q (by omega)
                have nf := x_needSignF (d := d + 2) (J := J) (R := R) (c := 41) ft.1 q (by omega) (by omega)
                exact ⟨I4, I4, sf, nf, xP_n q ft d2.2.2, fun e => absurd (by rw [pB_n q] at e; exact e) q⟩
            obtain ⟨I5, I6, v1, x1, y1, y2⟩ := key
            have y3 := xP_o y1
            obtain ⟨I7, z1, z2, z3⟩ := xP_E (J := J) hx hac (t := (3, w)) (by intro e; cases e) y2 y3
            have z1' : ∀ d, am_E (d + 1) 18 0 [(0, .ref 8), (1, .int (am_i ((30000 : Int) + (w : Int))))] [] (am_up I6 8 4 (I6 8 4 - am_i 1), J, R, 138) = some (none, (I7, J, R, 138)) := z1
            have ew : am_i 30000 + am_i (w : Int) = am_i ((30000 : Int) + (w : Int)) := am_i_add _ _
            refine ⟨I7, ?_, ?_⟩
            · rw [sg_X3_part_93]
              simp (disch := first | assumption | omega) only [rX hx, ly_csx, ly_cax, ly_cf, ly_kd, ly_ln, ↓Bool.cond_decide, cond_true, cond_false, ↓bI_p, ↓bV_p, ↓bL_p, bIJ_s, bVJ_s, bLJ_s, ↓am_let_s, Nat.blt, Nat.ble, Bool.and_true, Bool.true_and, Bool.and_self, Int.cast_ofNat_Int, sg_X3_pair_0, a1', sg1, b01_t s41', b01_t s41, am0z, am1z, b1', c1', d1', v1, x1, ew, z1', sg_X3_pair_81, sg_X3_part_207, ne_eq, not_true_eq_false, not_false_eq_true, ↓reduceIte]
            · have eq : pB (pG T n so f 3 (o + 1) (tE T n (tE T n p))) (fun p1 => pB (pA (aS T n p1 44)) (fun p2 => pB (pG T n so f 3 (o + 1) p2) (fun p3 => pB (pA (aS T n p3 41)) (fun p4 => pT p4 [(3, ((w : Nat) : Int).toNat)])))) = pB (pB (pB (pG T n so f 3 (o + 1) (tE T n (tE T n p))) (fun p1 => pA (aS T n p1 44))) (fun p2 => pB (pG T n so f 3 (o + 1) p2) (fun p3 => pA (aS T n p3 41)))) (fun p4 => pT p4 [(3, w)]) := by
                rw [Int.toNat_natCast]
                simp only [pB_bb]
              rw [eq]
              exact xP_s a3 (fun k => a4 _ _ (by omega)) fr1 (xP_s b3 (fun k => b5 _ _ (by omega) (by omega)) fr2 z2)
        · rw [if_neg s41]
          have s41' : ¬ tSg T n (tE T n p) = ((40 : Nat) : Int) := s41
          have fh := fun d => x_flH (d := d) (J := J) (R := R) (I := I1) a2.2.2.2.2.1
          rw [a2.2.2.1] at fh
          have fh' : ∀ d, am_E (d + 2) 72 0 [(0, .ref 5)] [] (I1, J, R, 138) = some (none, (am_up (am_up (am_up I1 5 10 (am_i (1 : Nat))) 5 11 (am_i (tAt T n (tE T n p)))) 5 5 (am_i 4), J, R, 138)) := fh
          obtain ⟨c1, c2⟩ := fl_ft (so := so) (e := 1) (pl := tAt T n (tE T n p)) hF1 (by omega) hac
          refine ⟨_, ?_, xP_e (by omega) c1 (frF_t fr1 c2)⟩
          have a1' : am_E (d + 7) 73 0 [(0, .ref 5)] [] (I, J, R, 138) = some (none, (I1, J, R, 138)) := a1
          rw [sg_X3_part_93]
          simp (disch := first | assumption | omega) only [rX hx, ly_csx, ly_cax, ly_cf, ly_kd, ly_ln, ↓Bool.cond_decide, cond_true, cond_false, ↓bI_p, ↓bV_p, ↓bL_p, bIJ_s, bVJ_s, bLJ_s, ↓am_let_s, Nat.blt, Nat.ble, Bool.and_true, Bool.true_and, Bool.and_self, Int.cast_ofNat_Int, am_i_add, am_i_sub, am_i_mul, am_ok_i, am_i_cl, n_lt, n_le, n_eq, n_lt0, n_le0, n_0lt, n_0le, n_eq0, ne_eq, ↓reduceIte, not_true_eq_false, not_false_eq_true, and_true, true_and, and_false, false_and, eq_T, eq_F, lt_T, lt_F, le_T, le_F, qn_T, qn_F, and_F, b01_T, b01_F, e_isIn, Int32.toInt_toInt64, am_i_toInt, am_l_toInt, Int.toNat_natCast, Int.reduceToNat, Int.reduceAdd, Int.reduceSub, Int.reduceMul, Int.reduceNeg, Nat.reduceAdd, Nat.reduceMul, Nat.add_zero, Nat.mul_zero, Nat.zero_add, am_zb0, am_zb1, sg_X3_pair_0, a1', sg1, b01_f s41', fh', sg_X3_pair_81, sg_X3_part_207]
      · rw [if_neg w24]
        have w24a : ¬ tW T n p = 24 := fun e => w24 (Or.inl e)
        have w25a : ¬ tW T n p = 25 := fun e => w24 (Or.inr e)
        by_cases w9 : so = 3 ∧ (tW T n p = 9 ∨ tW T n p = 5)
        · rw [if_pos w9]
          obtain ⟨so3, w9'⟩ := w9
          have es := tE_s hp (tW_0 (T := T) (n := n) (p := p) (by omega))
          obtain ⟨w, hw⟩ : ∃ w : Nat, tW T n p = w := ⟨(tW T n p).toNat, by omega⟩
          have f53 : I 8 5 = am_i 3 := by rw [f5, so3]; rfl
          have e120 : am_E (d + 9) 26 0 [(0, .ref 8)] [] (I, J, R, 138) = am_E (d + 9) 26 120 [(0, .ref 8), (1, .int (am_i w))] [] (I, J, R, 138) := by
            rw [sg_X3_part_0]
            rw [hw] at wh w24a w25a w9'
            by_cases w4 : w = 9
            · simp (disch := first | assumption | omega) only [rX hx, ly_csx, ly_cax, ly_cf, ly_kd, ly_ln, ↓Bool.cond_decide, cond_true, cond_false, ↓bI_p, ↓bV_p, ↓bL_p, bIJ_s, bVJ_s, bLJ_s, ↓am_let_s, Nat.blt, Nat.ble, Bool.and_true, Bool.true_and, Bool.and_self, Int.cast_ofNat_Int, am_i_add, am_i_sub, am_i_mul, am_ok_i, am_i_cl, n_lt, n_le, n_eq, n_lt0, n_le0, n_0lt, n_0le, n_eq0, ne_eq, ↓reduceIte, not_true_eq_false, not_false_eq_true, and_true, true_and, and_false, false_and, eq_T, eq_F, lt_T, lt_F, le_T, le_F, qn_T, qn_F, and_F, b01_T, b01_F, e_isIn, Int32.toInt_toInt64, am_i_toInt, am_l_toInt, Int.toNat_natCast, Int.reduceToNat, Int.reduceAdd, Int.reduceSub, Int.reduceMul, Int.reduceNeg, Nat.reduceAdd, Nat.reduceMul, Nat.add_zero, Nat.mul_zero, Nat.zero_add, am_zb0, am_zb1, wh, nm, b01_f k2, sg, b01_f s40', f53]
            · simp (disch := first | assumption | omega) only [rX hx, ly_csx, ly_cax, ly_cf, ly_kd, ly_ln, ↓Bool.cond_decide, cond_true, cond_false, ↓bI_p, ↓bV_p, ↓bL_p, bIJ_s, bVJ_s, bLJ_s, ↓am_let_s, Nat.blt, Nat.ble, Bool.and_true, Bool.true_and, Bool.and_self, Int.cast_ofNat_Int, am_i_add, am_i_sub, am_i_mul, am_ok_i, am_i_cl, n_lt, n_le, n_eq, n_lt0, n_le0, n_0lt, n_0le, n_eq0, ne_eq, ↓reduceIte, not_true_eq_false, not_false_eq_true, and_true, true_and, and_false, false_and, eq_T, eq_F, lt_T, lt_F, le_T, le_F, qn_T, qn_F, and_F, b01_T, b01_F, e_isIn, Int32.toInt_toInt64, am_i_toInt, am_l_toInt, Int.toNat_natCast, Int.reduceToNat, Int.reduceAdd, Int.reduceSub, Int.reduceMul, Int.reduceNeg, Nat.reduceAdd, Nat.reduceMul, Nat.add_zero, Nat.mul_zero, Nat.zero_add, am_zb0, am_zb1, wh, nm, b01_f k2, sg, b01_f s40', f53]
          rw [e120, hw]
          by_cases o6 : 6 ≤ o
          · rw [if_pos o6]
            have op := fun d => x_opens6 (d := d) (J := J) (R := R) hx hs hF (by omega)
            obtain ⟨c1, c2⟩ := fl_ft (so := so) (e := 4) (pl := tAt T n p) hF (by omega) hac
            refine ⟨_, ?_, xP_e (by omega) c1 c2⟩
            rw [sg_X3_part_120]
            simp (disch := first | assumption | omega) only [rX hx, ly_csx, ly_cax, ly_cf, ly_kd, ly_ln, ↓Bool.cond_decide, cond_true, cond_false, ↓bI_p, ↓bV_p, ↓bL_p, bIJ_s, bVJ_s, bLJ_s, ↓am_let_s, Nat.blt, Nat.ble, Bool.and_true, Bool.true_and, Bool.and_self, Int.cast_ofNat_Int, am_i_add, am_i_sub, am_i_mul, am_ok_i, am_i_cl, n_lt, n_le, n_eq, n_lt0, n_le0, n_0lt, n_0le, n_eq0, ne_eq, ↓reduceIte, not_true_eq_false, not_false_eq_true, and_true, true_and, and_false, false_and, eq_T, eq_F, lt_T, lt_F, le_T, le_F, qn_T, qn_F, and_F, b01_T, b01_F, e_isIn, Int32.toInt_toInt64, am_i_toInt, am_l_toInt, Int.toNat_natCast, Int.reduceToNat, Int.reduceAdd, Int.reduceSub, Int.reduceMul, Int.reduceNeg, Nat.reduceAdd, Nat.reduceMul, Nat.add_zero, Nat.mul_zero, Nat.zero_add, am_zb0, am_zb1, op, sg_X3_part_207]
          · rw [if_neg o6]
            obtain ⟨I1, a1, a2, a3, a4, a5⟩ := x_opens (d := d + 3) (J := J) hx hT hp hs hF (by omega) (tW_4 (T := T) (n := n) (p := p) (by omega))
            have fr1 : frF I I1 := ⟨by rw [a4.2.2.2, f5], fun q j x y z => a5 q j x y⟩
            have hf1 : 10 * (n - tE T n p) + 0 + 1 ≤ f := by omega
            obtain ⟨I2, b1, b2⟩ := ih 0 (o + 1) (tE T n p) (d + 8) sz ac 0 I1 (by omega) (by omega) es.2 hf1 (by show 10 * (6 - (o + 1)) + 9 ≤ d + 8; omega) (txX_f hT fr1) a2 a4 (by omega) hac (by omega)
            have ge := pG_e (T := T) (so := so) (f := f) (md := 0) (o := o + 1) (p := tE T n p) (by omega) (by omega) es.2 hf1
            have a1' : am_E (d + 8) 19 0 [(0, .ref 8)] [] (I, J, R, 138) = some (some (.int (am_i 1)), (I1, J, R, 138)) := a1
            have b1' : am_E (d + 8) 26 0 [(0, .ref 8)] [] (I1, J, R, 138) = some (none, (I2, J, R, 138)) := b1
            have ew : am_i 20000 + am_i (w : Int) = am_i ((20000 : Int) + (w : Int)) := am_i_add _ _
            have eT : ((w : Nat) : Int).toNat = w := Int.toNat_natCast w
            rw [eT]
            have enc : encX (5, w) = (20000 : Int) + (w : Int) := rfl
            -- what is behind the part: the code, one open less, carry is asked
            by_cases q : (pG T n so f 0 (o + 1) (tE T n p)).1 = 0
            · obtain ⟨g1, g2, g3⟩ := ge.2 q
              obtain ⟨c1, c2, c3, c4, c5, c6, c7⟩ := b2.1 q
              have em := fun d => x_emit (d := d) (J := J) (R := R) (I := I2) (v := am_i ((20000 : Int) + (w : Int))) hx c3 (by omega)
              have r8 : ∀ v, am_up (am_up (am_up I2 9 (sz + (pG T n so f 0 (o + 1) (tE T n p)).2.2.length) (am_i ((20000 : Int) + (w : Int)))) 8 2 (am_i (sz + (pG T n so f 0 (o + 1) (tE T n p)).2.2.length + 1 : Nat))) 8 4 v 8 3 = am_i (acS ac (pG T n so f 0 (o + 1) (tE T n p)).2.2) := fun v => by rw [am_up_o (by omega), am_up_o (by omega), am_up_o (by omega)]; exact c4
              have acb := acS_b (ac := ac) (l := (pG T n so f 0 (o + 1) (tE T n p)).2.2)
              have fin : ∀ v : Nat, v = acS ac ((pG T n so f 0 (o + 1) (tE T n p)).2.2 ++ [(5, w)]) → xP T n o sz ac (pB (pG T n so f 0 (o + 1) (tE T n p)) (fun p1 => pT p1 [(5, w)])) I (am_up (am_up (am_up (am_up I2 9 (sz + (pG T n so f 0 (o + 1) (tE T n p)).2.2.length) (am_i ((20000 : Int) + (w : Int)))) 8 2 (am_i (sz + (pG T n so f 0 (o + 1) (tE T n p)).2.2.length + 1 : Nat))) 8 4 (am_up (am_up I2 9 (sz + (pG T n so f 0 (o + 1) (tE T n p)).2.2.length) (am_i ((20000 : Int) + (w : Int)))) 8 2 (am_i (sz + (pG T n so f 0 (o + 1) (tE T n p)).2.2.length + 1 : Nat)) 8 4 - am_i 1)) 8 3 (am_i v)) := by
                intro v hv
                rw [pB_0 q]
                refine ⟨fun _ => ⟨?_, ?_, ?_, ?_, ?_, fun k t ht => ?_, fun k hk => ?_⟩, fun e => absurd rfl e, ⟨?_, fun q j x y z => ?_⟩⟩
                · obtain ⟨d1, d2, d3, d4, d5, d6, d7, d8⟩ := c1
                  refine ⟨?_, ?_, ?_, ?_, ?_, fun k => ?_, fun k => ?_, fun k => ?_⟩
                  · rw [am_up_o (by omega), am_up_o (by omega), am_up_o (by omega), am_up_o (by omega)]; exact d1
                  · rw [am_up_o (by omega), am_up_o (by omega), am_up_o (by omega), am_up_o (by omega)]; exact d2
                  · rw [am_up_o (by omega), am_up_o (by omega), am_up_o (by omega), am_up_o (by omega)]; exact d3
                  · rw [am_up_o (by omega), am_up_o (by omega), am_up_o (by omega), am_up_o (by omega)]; exact d4
                  · rw [am_up_o (by omega), am_up_o (by omega), am_up_o (by omega), am_up_o (by omega)]; exact d5
                  · obtain ⟨x, y, z⟩ := d6 k
                    exact ⟨by rw [am_up_o (by omega), am_up_o (by omega), am_up_o (by omega), am_up_o (by omega)]; exact x, by rw [am_up_o (by omega), am_up_o (by omega), am_up_o (by omega), am_up_o (by omega)]; exact y, fun h => by rw [am_up_o (by omega), am_up_o (by omega), am_up_o (by omega), am_up_o (by omega)]; exact z h⟩
                  · obtain ⟨x, y⟩ := d7 k
                    exact ⟨by rw [am_up_o (by omega), am_up_o (by omega), am_up_o (by omega), am_up_o (by omega)]; exact x, by rw [am_up_o (by omega), am_up_o (by omega), am_up_o (by omega), am_up_o (by omega)]; exact y⟩
                  · rw [am_up_o (by omega), am_up_o (by omega), am_up_o (by omega), am_up_o (by omega)]; exact d8 k
                · rw [am_up_o (by omega), am_up_o (by omega), am_up_o (by omega), am_up_o (by omega), c2, a3]
                · rw [am_up_o (by omega), am_up_o (by omega), am_up_e]
                  show _ = am_i ((sz + ((pG T n so f 0 (o + 1) (tE T n p)).2.2 ++ [(5, w)]).length : Nat) : Int)
                  rw [List.length_append]
                  rfl
                · rw [am_up_e, hv]
                  rfl
                · rw [am_up_o (by omega), am_up_e, am_up_o (by omega), am_up_o (by omega), c5, am_i_sub]
                  congr 1
                  omega
                · have ht' : ((pG T n so f 0 (o + 1) (tE T n p)).2.2 ++ [(5, w)])[k]? = some t := ht
                  rw [am_up_o (by omega), am_up_o (by omega), am_up_o (by omega)]
                  by_cases ck : k < (pG T n so f 0 (o + 1) (tE T n p)).2.2.length
                  · rw [List.getElem?_append_left ck] at ht'
                    rw [am_up_o (by omega)]
                    exact c6 k t ht'
                  · rw [List.getElem?_append_right (by omega)] at ht'
                    have hk0 : k - (pG T n so f 0 (o + 1) (tE T n p)).2.2.length = 0 := by
                      cases hk : k - (pG T n so f 0 (o + 1) (tE T n p)).2.2.length with
                      | zero => rfl
                      | succ m => rw [hk] at ht'; simp at ht'
                    rw [hk0] at ht'
                    have et : (5, w) = t := by simpa using ht'
                    rw [show k = (pG T n so f 0 (o + 1) (tE T n p)).2.2.length by omega, am_up_e, ← et]
                    rfl
                · rw [am_up_o (by omega), am_up_o (by omega), am_up_o (by omega), am_up_o (by omega), c7 k hk]
                  exact a5 _ _ (by omega) (by omega)
                · rw [am_up_o (by omega), am_up_o (by omega), am_up_o (by omega), am_up_o (by omega), b2.2.2.1, a4.2.2.2, f5]
                · rw [am_up_o (by omega), am_up_o (by omega), am_up_o (by omega), am_up_o (by omega), b2.2.2.2 q j x y z]
                  exact a5 q j x y
              have hac2 : acS ac (pG T n so f 0 (o + 1) (tE T n p)).2.2 = 0 ∨ acS ac (pG T n so f 0 (o + 1) (tE T n p)).2.2 = 1 := by omega
              have zb1 : am_zb (am_i 1) = true := am_zb1
              have zb0 : am_zb (am_i 0) = true := am_zb0
              have oo : am_i 1 ||| am_i 1 = am_i 1 := by decide
              have o1 : am_i 0 ||| am_i 1 = am_i 1 := by decide
              have o2 : am_i 1 ||| am_i 0 = am_i 1 := by decide
              have o3 : am_i 0 ||| am_i 0 = am_i 0 := by decide
              have y0 : am_i ((0 : Nat) : Int) = am_i 0 := rfl
              have y1 : am_i ((1 : Nat) : Int) = am_i 1 := rfl
              have c10 : (am_i 1 = 0) = False := eq_false am1z
              rw [← acS_a] at fin
              by_cases w9b : w = 9
              · have c9 : (am_i (w : Int) = am_i 9) = True := eq_true (by rw [w9b]; rfl)
                have fi := fin 1 (by
                  unfold acS
                  exact (if_pos (Or.inr (by rw [w9b]; exact List.mem_cons_self))).symm)
                refine ⟨_, ?_, fi⟩
                rw [sg_X3_part_120]
                rcases hac2 with hz | hz
                · rw [hz] at r8
                  simp (disch := first | assumption | omega) only [rX hx, ly_csx, ly_cax, ly_cf, ly_kd, ly_ln, ↓Bool.cond_decide, cond_true, cond_false, ↓bI_p, ↓bV_p, ↓bL_p, bIJ_s, bVJ_s, bLJ_s, ↓am_let_s, Nat.blt, Nat.ble, Bool.and_true, Bool.true_and, Bool.and_self, Int.cast_ofNat_Int, c10, c9, a1', b1', ew, em, r8, y0, y1, o1, zb1, ne_eq, not_true_eq_false, not_false_eq_true, ↓reduceIte, sg_X3_part_207]
                · rw [hz] at r8
                  simp (disch := first | assumption | omega) only [rX hx, ly_csx, ly_cax, ly_cf, ly_kd, ly_ln, ↓Bool.cond_decide, cond_true, cond_false, ↓bI_p, ↓bV_p, ↓bL_p, bIJ_s, bVJ_s, bLJ_s, ↓am_let_s, Nat.blt, Nat.ble, Bool.and_true, Bool.true_and, Bool.and_self, Int.cast_ofNat_Int, c10, c9, a1', b1', ew, em, r8, y0, y1, oo, zb1, ne_eq, not_true_eq_false, not_false_eq_true, ↓reduceIte, sg_X3_part_207]
              · have w5 : w = 5 := by rw [hw] at w9'; omega
                have c9 : (am_i (w : Int) = am_i 9) = False := eq_false (by rw [w5]; decide)
                have fi := fin (acS ac (pG T n so f 0 (o + 1) (tE T n p)).2.2) (acS_0 acb (by rw [w5]; simp)).symm
                refine ⟨_, ?_, fi⟩
                rw [sg_X3_part_120]
                rcases hac2 with hz | hz
                · rw [hz] at r8 ⊢
                  simp (disch := first | assumption | omega) only [rX hx, ly_csx, ly_cax, ly_cf, ly_kd, ly_ln, ↓Bool.cond_decide, cond_true, cond_false, ↓bI_p, ↓bV_p, ↓bL_p, bIJ_s, bVJ_s, bLJ_s, ↓am_let_s, Nat.blt, Nat.ble, Bool.and_true, Bool.true_and, Bool.and_self, Int.cast_ofNat_Int, c10, c9, a1', b1', ew, em, r8, y0, y1, o3, zb0, ne_eq, not_true_eq_false, not_false_eq_true, ↓reduceIte, sg_X3_part_207]
                · rw [hz] at r8 ⊢
                  simp (disch := first | assumption | omega) only [rX hx, ly_csx, ly_cax, ly_cf, ly_kd, ly_ln, ↓Bool.cond_decide, cond_true, cond_false, ↓bI_p, ↓bV_p, ↓bL_p, bIJ_s, bVJ_s, bLJ_s, ↓am_let_s, Nat.blt, Nat.ble, Bool.and_true, Bool.true_and, Bool.and_self, Int.cast_ofNat_Int, c10, c9, a1', b1', ew, em, r8, y0, y1, o2, zb1, ne_eq, not_true_eq_false, not_false_eq_true, ↓reduceIte, sg_X3_part_207]
            · obtain ⟨I3, c1, c2, c3, c4⟩ := x_emitF (J := J) (v := am_i ((20000 : Int) + (w : Int))) hx (b2.2.1 q)
              obtain ⟨⟨g1, g2, g3⟩, ⟨s', s1, s2⟩, ⟨a', t1, t2⟩⟩ := c2
              have r8 : ∀ v, am_up I3 8 4 v 8 3 = am_i a' := fun v => by rw [am_up_o (by omega)]; exact t2
              have fin : ∀ v : Nat, v ≤ 1 → xP T n o sz ac (pB (pG T n so f 0 (o + 1) (tE T n p)) (fun p1 => pT p1 [(5, w)])) I (am_up (am_up I3 8 4 (I3 8 4 - am_i 1)) 8 3 (am_i v)) := fun v hv => xP_n q ⟨⟨by rw [am_up_o (by omega), am_up_o (by omega)]; exact g1, by rw [am_up_o (by omega), am_up_o (by omega)]; exact g2, by rw [am_up_o (by omega), am_up_o (by omega)]; exact g3⟩, ⟨s', s1, by rw [am_up_o (by omega), am_up_o (by omega)]; exact s2⟩, v, hv, am_up_e⟩ (frF_t fr1 (frF_t b2.2.2 (frF_t c3 ⟨by rw [am_up_o (by omega), am_up_o (by omega)], fun q j x y z => by rw [am_up_o (by omega), am_up_o (by omega)]⟩)))
              have hac2 : a' = 0 ∨ a' = 1 := by omega
              have zb1 : am_zb (am_i 1) = true := am_zb1
              have zb0 : am_zb (am_i 0) = true := am_zb0
              have oo : am_i 1 ||| am_i 1 = am_i 1 := by decide
              have o1 : am_i 0 ||| am_i 1 = am_i 1 := by decide
              have o2 : am_i 1 ||| am_i 0 = am_i 1 := by decide
              have o3 : am_i 0 ||| am_i 0 = am_i 0 := by decide
              have y0 : am_i ((0 : Nat) : Int) = am_i 0 := rfl
              have y1 : am_i ((1 : Nat) : Int) = am_i 1 := rfl
              have c10 : (am_i 1 = 0) = False := eq_false am1z
              have c1' := fun d => c1 d
              by_cases w9b : w = 9
              · have c9 : (am_i (w : Int) = am_i 9) = True := eq_true (by rw [w9b]; rfl)
                have fi := fin 1 (by omega)
                refine ⟨_, ?_, fi⟩
                rw [sg_X3_part_120]
                rcases hac2 with hz | hz
                · rw [hz] at r8
                  simp (disch := first | assumption | omega) only [rX hx, ly_csx, ly_cax, ly_cf, ly_kd, ly_ln, ↓Bool.cond_decide, cond_true, cond_false, ↓bI_p, ↓bV_p, ↓bL_p, bIJ_s, bVJ_s, bLJ_s, ↓am_let_s, Nat.blt, Nat.ble, Bool.and_true, Bool.true_and, Bool.and_self, Int.cast_ofNat_Int, c10, c9, a1', b1', ew, c1', r8, y0, y1, o1, zb1, ne_eq, not_true_eq_false, not_false_eq_true, ↓reduceIte, sg_X3_part_207]
                · rw [hz] at r8
                  simp (disch := first | assumption | omega) only [rX hx, ly_csx, ly_cax, ly_cf, ly_kd, ly_ln, ↓Bool.cond_decide, cond_true, cond_false, ↓bI_p, ↓bV_p, ↓bL_p, bIJ_s, bVJ_s, bLJ_s, ↓am_let_s, Nat.blt, Nat.ble, Bool.and_true, Bool.true_and, Bool.and_self, Int.cast_ofNat_Int, c10, c9, a1', b1', ew, c1', r8, y0, y1, oo, zb1, ne_eq, not_true_eq_false, not_false_eq_true, ↓reduceIte, sg_X3_part_207]
              · have w5 : w = 5 := by rw [hw] at w9'; omega
                have c9 : (am_i (w : Int) = am_i 9) = False := eq_false (by rw [w5]; decide)
                have fi := fin a' t1
                refine ⟨_, ?_, fi⟩
                rw [sg_X3_part_120]
                rcases hac2 with hz | hz
                · rw [hz] at r8 ⊢
                  simp (disch := first | assumption | omega) only [rX hx, ly_csx, ly_cax, ly_cf, ly_kd, ly_ln, ↓Bool.cond_decide, cond_true, cond_false, ↓bI_p, ↓bV_p, ↓bL_p, bIJ_s, bVJ_s, bLJ_s, ↓am_let_s, Nat.blt, Nat.ble, Bool.and_true, Bool.true_and, Bool.and_self, Int.cast_ofNat_Int, c10, c9, a1', b1', ew, c1', r8, y0, y1, o3, zb0, ne_eq, not_true_eq_false, not_false_eq_true, ↓reduceIte, sg_X3_part_207]
                · rw [hz] at r8 ⊢
                  simp (disch := first | assumption | omega) only [rX hx, ly_csx, ly_cax, ly_cf, ly_kd, ly_ln, ↓Bool.cond_decide, cond_true, cond_false, ↓bI_p, ↓bV_p, ↓bL_p, bIJ_s, bVJ_s, bLJ_s, ↓am_let_s, Nat.blt, Nat.ble, Bool.and_true, Bool.true_and, Bool.and_self, Int.cast_ofNat_Int, c10, c9, a1', b1', ew, c1', r8, y0, y1, o2, zb1, ne_eq, not_true_eq_false, not_false_eq_true, ↓reduceIte, sg_X3_part_207]
        · rw [if_neg w9]
          have e173 : am_E (d + 9) 26 0 [(0, .ref 8)] [] (I, J, R, 138) = am_E (d + 9) 26 173 [(0, .ref 8), (1, .int (am_i (tW T n p)))] [] (I, J, R, 138) := by
            rw [sg_X3_part_0]
            by_cases so3 : so = 3
            · have f53 : I 8 5 = am_i 3 := by rw [f5, so3]; rfl
              have w9a : ¬ tW T n p = 9 := fun e => w9 ⟨so3, Or.inl e⟩
              have w5a : ¬ tW T n p = 5 := fun e => w9 ⟨so3, Or.inr e⟩
              simp (disch := first | assumption | omega) only [rX hx, ly_csx, ly_cax, ly_cf, ly_kd, ly_ln, ↓Bool.cond_decide, cond_true, cond_false, ↓bI_p, ↓bV_p, ↓bL_p, bIJ_s, bVJ_s, bLJ_s, ↓am_let_s, Nat.blt, Nat.ble, Bool.and_true, Bool.true_and, Bool.and_self, Int.cast_ofNat_Int, am_i_add, am_i_sub, am_i_mul, am_ok_i, am_i_cl, n_lt, n_le, n_eq, n_lt0, n_le0, n_0lt, n_0le, n_eq0, ne_eq, ↓reduceIte, not_true_eq_false, not_false_eq_true, and_true, true_and, and_false, false_and, eq_T, eq_F, lt_T, lt_F, le_T, le_F, qn_T, qn_F, and_F, b01_T, b01_F, e_isIn, Int32.toInt_toInt64, am_i_toInt, am_l_toInt, Int.toNat_natCast, Int.reduceToNat, Int.reduceAdd, Int.reduceSub, Int.reduceMul, Int.reduceNeg, Nat.reduceAdd, Nat.reduceMul, Nat.add_zero, Nat.mul_zero, Nat.zero_add, am_zb0, am_zb1, wh, nm, b01_f k2, sg, b01_f s40', f53]
            · simp (disch := first | assumption | omega) only [rX hx, ly_csx, ly_cax, ly_cf, ly_kd, ly_ln, ↓Bool.cond_decide, cond_true, cond_false, ↓bI_p, ↓bV_p, ↓bL_p, bIJ_s, bVJ_s, bLJ_s, ↓am_let_s, Nat.blt, Nat.ble, Bool.and_true, Bool.true_and, Bool.and_self, Int.cast_ofNat_Int, am_i_add, am_i_sub, am_i_mul, am_ok_i, am_i_cl, n_lt, n_le, n_eq, n_lt0, n_le0, n_0lt, n_0le, n_eq0, ne_eq, ↓reduceIte, not_true_eq_false, not_false_eq_true, and_true, true_and, and_false, false_and, eq_T, eq_F, lt_T, lt_F, le_T, le_F, qn_T, qn_F, and_F, b01_T, b01_F, e_isIn, Int32.toInt_toInt64, am_i_toInt, am_l_toInt, Int.toNat_natCast, Int.reduceToNat, Int.reduceAdd, Int.reduceSub, Int.reduceMul, Int.reduceNeg, Nat.reduceAdd, Nat.reduceMul, Nat.add_zero, Nat.mul_zero, Nat.zero_add, am_zb0, am_zb1, wh, nm, b01_f k2, sg, b01_f s40', f5]
          rw [e173]
          by_cases wv : vlB so (tW T n p) = true
          · rw [if_pos wv]
            have wv' := wv
            unfold vlB at wv'
            rw [decide_eq_true_eq] at wv'
            have es := tE_s hp (tW_0 (T := T) (n := n) (p := p) (by omega))
            obtain ⟨w, hw⟩ : ∃ w : Nat, tW T n p = w := ⟨(tW T n p).toNat, by omega⟩
            have em := fun d => x_emit (d := d) (J := J) (R := R) (I := I) (v := am_i ((10000 : Int) + (w : Int))) hx hF.1 (by omega)
            have hg : ∀ q k, ¬ (q = 9 ∧ k = sz) → ¬ (q = 8 ∧ k = 2) → am_up (am_up I 9 sz (am_i ((10000 : Int) + (w : Int)))) 8 2 (am_i (sz + 1 : Nat)) q k = I q k := fun q k x y => by rw [am_up_o y, am_up_o x]
            have hs1 : scX T n p (am_up (am_up I 9 sz (am_i ((10000 : Int) + (w : Int)))) 8 2 (am_i (sz + 1 : Nat))) := by
              obtain ⟨d1, d2, d3, d4, d5, d6, d7, d8⟩ := hs
              refine ⟨?_, ?_, ?_, ?_, ?_, fun k => ?_, fun k => ?_, fun k => ?_⟩
              · rw [hg _ _ (by omega) (by omega)]; exact d1
              · rw [hg _ _ (by omega) (by omega)]; exact d2
              · rw [hg _ _ (by omega) (by omega)]; exact d3
              · rw [hg _ _ (by omega) (by omega)]; exact d4
              · rw [hg _ _ (by omega) (by omega)]; exact d5
              · obtain ⟨x, y, z⟩ := d6 k
                exact ⟨by rw [hg _ _ (by omega) (by omega)]; exact x, by rw [hg _ _ (by omega) (by omega)]; exact y, fun h => by rw [hg _ _ (by omega) (by omega)]; exact z h⟩
              · obtain ⟨x, y⟩ := d7 k
                exact ⟨by rw [hg _ _ (by omega) (by omega)]; exact x, by rw [hg _ _ (by omega) (by omega)]; exact y⟩
              · rw [hg _ _ (by omega) (by omega)]; exact d8 k
            obtain ⟨I2, a1, a2, a3, a4⟩ := x_go (d := d + 4) (J := J) hx (txX_c hT (fun q k e => hg q k (by omega) (by omega))) hp hs1 (tW_4 (T := T) (n := n) (p := p) (by omega))
            have a1' : am_E (d + 8) 73 0 [(0, .ref 5)] [] (am_up (am_up I 9 sz (am_i ((10000 : Int) + (w : Int)))) 8 2 (am_i (sz + 1 : Nat)), J, R, 138) = some (none, (I2, J, R, 138)) := a1
            rw [hw] at iv wv ⊢
            have ew : am_i 10000 + am_i (w : Int) = am_i ((10000 : Int) + (w : Int)) := am_i_add _ _
            rw [Int.toNat_natCast]
            refine ⟨I2, ?_, ⟨fun _ => ⟨a2, by rw [a3, hg _ _ (by omega) (by omega)], by rw [a4 _ _ (by omega), am_up_e]; rfl, ?_, by rw [a4 _ _ (by omega), hg _ _ (by omega) (by omega)]; exact hF.2.2.1, fun k t ht => ?_, fun k hk => by rw [a4 _ _ (by omega), hg _ _ (by omega) (by omega)]⟩, fun e => absurd rfl e, ⟨by rw [a4 _ _ (by omega), hg _ _ (by omega) (by omega)], fun q j x y z => by rw [a4 _ _ x, hg _ _ (by omega) (by omega)]⟩⟩⟩
            · rw [sg_X3_part_173]
              simp (disch := first | assumption | omega) only [rX hx, ly_csx, ly_cax, ly_cf, ly_kd, ly_ln, ↓Bool.cond_decide, cond_true, cond_false, ↓bI_p, ↓bV_p, ↓bL_p, bIJ_s, bVJ_s, bLJ_s, ↓am_let_s, Nat.blt, Nat.ble, Bool.and_true, Bool.true_and, Bool.and_self, Int.cast_ofNat_Int, iv, b01_t wv, am0z, am1z, ew, em, a1', sg_X3_part_207, ne_eq, not_true_eq_false, not_false_eq_true, ↓reduceIte]
            · rw [a4 _ _ (by omega), hg _ _ (by omega) (by omega), hF.2.1]
              exact congrArg (fun x : Nat => am_i (x : Int)) (acS_0 (l := [(1, w)]) hac (by simp)).symm
            · have ht' : ([(1, w)] : List tok)[k]? = some t := ht
              have hk : k = 0 := by
                cases k with
                | zero => rfl
                | succ k => simp at ht'
              subst hk
              have e : (1, w) = t := by simpa using ht'
              rw [a4 _ _ (by omega), am_up_o (by omega), Nat.add_zero, am_up_e, ← e]
              rfl
          · rw [if_neg wv]
            have fh := fun d => x_flH (d := d) (J := J) (R := R) (I := I) hs.2.2.2.2.1
            rw [hs.2.2.1] at fh
            have fh' : ∀ d, am_E (d + 2) 72 0 [(0, .ref 5)] [] (I, J, R, 138) = some (none, (am_up (am_up (am_up I 5 10 (am_i (1 : Nat))) 5 11 (am_i (tAt T n p))) 5 5 (am_i 4), J, R, 138)) := fh
            obtain ⟨c1, c2⟩ := fl_ft (so := so) (e := 1) (pl := tAt T n p) hF (by omega) hac
            refine ⟨_, ?_, xP_e (by omega) c1 c2⟩
            rw [sg_X3_part_173]
            simp (disch := first | assumption | omega) only [rX hx, ly_csx, ly_cax, ly_cf, ly_kd, ly_ln, ↓Bool.cond_decide, cond_true, cond_false, ↓bI_p, ↓bV_p, ↓bL_p, bIJ_s, bVJ_s, bLJ_s, ↓am_let_s, Nat.blt, Nat.ble, Bool.and_true, Bool.true_and, Bool.and_self, Int.cast_ofNat_Int, am_i_add, am_i_sub, am_i_mul, am_ok_i, am_i_cl, n_lt, n_le, n_eq, n_lt0, n_le0, n_0lt, n_0le, n_eq0, ne_eq, ↓reduceIte, not_true_eq_false, not_false_eq_true, and_true, true_and, and_false, false_and, eq_T, eq_F, lt_T, lt_F, le_T, le_F, qn_T, qn_F, and_F, b01_T, b01_F, e_isIn, Int32.toInt_toInt64, am_i_toInt, am_l_toInt, Int.toNat_natCast, Int.reduceToNat, Int.reduceAdd, Int.reduceSub, Int.reduceMul, Int.reduceNeg, Nat.reduceAdd, Nat.reduceMul, Nat.add_zero, Nat.mul_zero, Nat.zero_add, am_zb0, am_zb1, iv, b01_f wv, fh', sg_X3_part_207]
end XMD
