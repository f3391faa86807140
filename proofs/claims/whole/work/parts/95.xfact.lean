/-! ===== facts; all formulas ===== -/
section XFA
variable {J : tJ} {R : tR} {T : Nat → Nat} {n so f : Nat}
theorem x_m5 (hx : st_Rx R) (ih : xGs J R T n so f) {o p e sz ac : Nat} {I : tI} (ho : o ≤ 6) (hp : p ≤ n) (hf : 10 * (n - p) + 5 + 1 ≤ f + 1) (he : 10 * (6 - o) + 13 ≤ e) (hT : txX T n I R) (hs : scX T n p I) (hF : fS so o sz ac I) (hsz : sz ≤ p) (hac : ac ≤ 1) : ∃ I', am_E e 22 0 [(0, .ref 8)] [] (I, J, R, 138) = some (none, (I', J, R, 138)) ∧ xP T n o sz ac (pG T n so (f + 1) 5 o p) I I' := by
  obtain ⟨d, rfl⟩ : ∃ d, e = d + 9 := ⟨e - 9, by omega⟩
  have n1 := hT.1
  have ab := tAt_b (T := T) hp
  have vp := vw_p hT hs
  have w22 : ∀ d, am_E (d + 1) 82 0 [(0, .ref 5), (1, .int (am_i 22))] [] (I, J, R, 138) = _ := fun d => e_isWord (d := d) (J := J) (R := R) vp (w := 22) (by omega)
  have w23 : ∀ d, am_E (d + 1) 82 0 [(0, .ref 5), (1, .int (am_i 23))] [] (I, J, R, 138) = _ := fun d => e_isWord (d := d) (J := J) (R := R) vp (w := 23) (by omega)
  have s91 : ∀ d, am_E (d + 1) 81 0 [(0, .ref 5), (1, .int (am_i 91))] [] (I, J, R, 138) = _ := fun d => e_isSign (d := d) (J := J) (R := R) vp (c := 91) (by omega)
  have f5 := hF.2.2.2
  show ∃ I', _ ∧ xP T n o sz ac (if tW T n p = 22 then _ else _) I I'
  by_cases q22 : tW T n p = 22
  · rw [if_pos q22]
    have q22' : tW T n p = ((22 : Nat) : Int) := q22
    have es := tE_s hp (tW_0 (T := T) (n := n) (p := p) (by omega))
    by_cases o6 : 6 ≤ o
    · rw [if_pos o6]
      have op := fun d => x_opens6 (d := d) (J := J) (R := R) hx hs hF (by omega)
      obtain ⟨c1, c2⟩ := fl_ft (so := so) (e := 4) (pl := tAt T n p) hF (by omega) hac
      refine ⟨_, ?_, xP_e (by omega) c1 c2⟩
      rw [sg_X3_fact_0]
      simp (disch := first | assumption | omega) only [rX hx, ly_csx, ly_cax, ly_cf, ly_kd, ly_ln, ↓Bool.cond_decide, cond_true, cond_false, ↓bI_p, ↓bV_p, ↓bL_p, bIJ_s, bVJ_s, bLJ_s, ↓am_let_s, Nat.blt, Nat.ble, Bool.and_true, Bool.true_and, Bool.and_self, Int.cast_ofNat_Int, am_i_add, am_i_sub, am_i_mul, am_ok_i, am_i_cl, n_lt, n_le, n_eq, n_lt0, n_le0, n_0lt, n_0le, n_eq0, ne_eq, ↓reduceIte, not_true_eq_false, not_false_eq_true, and_true, true_and, and_false, false_and, eq_T, eq_F, lt_T, lt_F, le_T, le_F, qn_T, qn_F, and_F, b01_T, b01_F, e_isIn, Int32.toInt_toInt64, am_i_toInt, am_l_toInt, Int.toNat_natCast, Int.reduceToNat, Int.reduceAdd, Int.reduceSub, Int.reduceMul, Int.reduceNeg, Nat.reduceAdd, Nat.reduceMul, Nat.add_zero, Nat.mul_zero, Nat.zero_add, am_zb0, am_zb1, w22, b01_t q22', op, sg_X3_fact_173]
    · rw [if_neg o6]
      obtain ⟨I1, a1, a2, a3, a4, a5⟩ := x_opens (d := d + 3) (J := J) hx hT hp hs hF (by omega) (tW_4 (T := T) (n := n) (p := p) (by omega))
      have fr1 : frF I I1 := ⟨by rw [a4.2.2.2, f5], fun q j x y z => a5 q j x y⟩
      have hf1 : 10 * (n - tE T n p) + 5 + 1 ≤ f := by omega
      obtain ⟨I2, b1, b2⟩ := ih 5 (o + 1) (tE T n p) (d + 8) sz ac 0 I1 (by omega) (by omega) es.2 hf1 (by show 10 * (6 - (o + 1)) + 13 ≤ d + 8; omega) (txX_f hT fr1) a2 a4 (by omega) hac (by omega)
      have ge := pG_e (T := T) (so := so) (f := f) (md := 5) (o := o + 1) (p := tE T n p) (by omega) (by omega) es.2 hf1
      obtain ⟨I3, z1, z2, z3⟩ := xP_E (J := J) hx hac (t := (2, 0)) (by intro e; cases e) (fun q => by have := ge.2 q; omega) b2
      have a1' : am_E (d + 8) 19 0 [(0, .ref 8)] [] (I, J, R, 138) = some (some (.int (am_i 1)), (I1, J, R, 138)) := a1
      have b1' : am_E (d + 8) 22 0 [(0, .ref 8)] [] (I1, J, R, 138) = some (none, (I2, J, R, 138)) := b1
      have z1' : ∀ d, am_E (d + 1) 18 0 [(0, .ref 8), (1, .int (am_i 20022))] [] (I2, J, R, 138) = some (none, (I3, J, R, 138)) := z1
      refine ⟨am_up I3 8 4 (I3 8 4 - am_i 1), ?_, xP_s a3 (fun k => a5 _ _ (by omega) (by omega)) fr1 (xP_o z2)⟩
      rw [sg_X3_fact_0]
      simp (disch := first | assumption | omega) only [rX hx, ly_csx, ly_cax, ly_cf, ly_kd, ly_ln, ↓Bool.cond_decide, cond_true, cond_false, ↓bI_p, ↓bV_p, ↓bL_p, bIJ_s, bVJ_s, bLJ_s, ↓am_let_s, Nat.blt, Nat.ble, Bool.and_true, Bool.true_and, Bool.and_self, Int.cast_ofNat_Int, w22, b01_t q22', b01_t q22, am0z, am1z, a1', b1', z1', sg_X3_fact_173, ne_eq, not_true_eq_false, not_false_eq_true, ↓reduceIte]
  · rw [if_neg q22]
    have q22' : ¬ tW T n p = ((22 : Nat) : Int) := q22
    by_cases q91 : tSg T n p = 91
    · rw [if_pos q91]
      have q91' : tSg T n p = ((91 : Nat) : Int) := q91
      have es := tE_s hp (tSg_0 (T := T) (n := n) (p := p) (by omega))
      by_cases o6 : 6 ≤ o
      · rw [if_pos o6]
        have op := fun d => x_opens6 (d := d) (J := J) (R := R) hx hs hF (by omega)
        obtain ⟨c1, c2⟩ := fl_ft (so := so) (e := 4) (pl := tAt T n p) hF (by omega) hac
        refine ⟨_, ?_, xP_e (by omega) c1 c2⟩
        rw [sg_X3_fact_0]
        simp (disch := first | assumption | omega) only [rX hx, ly_csx, ly_cax, ly_cf, ly_kd, ly_ln, ↓Bool.cond_decide, cond_true, cond_false, ↓bI_p, ↓bV_p, ↓bL_p, bIJ_s, bVJ_s, bLJ_s, ↓am_let_s, Nat.blt, Nat.ble, Bool.and_true, Bool.true_and, Bool.and_self, Int.cast_ofNat_Int, am_i_add, am_i_sub, am_i_mul, am_ok_i, am_i_cl, n_lt, n_le, n_eq, n_lt0, n_le0, n_0lt, n_0le, n_eq0, ne_eq, ↓reduceIte, not_true_eq_false, not_false_eq_true, and_true, true_and, and_false, false_and, eq_T, eq_F, lt_T, lt_F, le_T, le_F, qn_T, qn_F, and_F, b01_T, b01_F, e_isIn, Int32.toInt_toInt64, am_i_toInt, am_l_toInt, Int.toNat_natCast, Int.reduceToNat, Int.reduceAdd, Int.reduceSub, Int.reduceMul, Int.reduceNeg, Nat.reduceAdd, Nat.reduceMul, Nat.add_zero, Nat.mul_zero, Nat.zero_add, am_zb0, am_zb1, w22, b01_f q22', s91, b01_t q91', op, sg_X3_fact_173]
      · rw [if_neg o6]
        obtain ⟨I1, a1, a2, a3, a4, a5⟩ := x_opens (d := d + 3) (J := J) hx hT hp hs hF (by omega) (tSg_4 (T := T) (n := n) (p := p) (by omega))
        have fr1 : frF I I1 := ⟨by rw [a4.2.2.2, f5], fun q j x y z => a5 q j x y⟩
        have hf1 : 10 * (n - tE T n p) + 8 + 1 ≤ f := by omega
        obtain ⟨I2, b1, b2⟩ := ih 8 (o + 1) (tE T n p) (d + 8) sz ac 0 I1 (by omega) (by omega) es.2 hf1 (by show 10 * (6 - (o + 1)) + 15 ≤ d + 8; omega) (txX_f hT fr1) a2 a4 (by omega) hac (by omega)
        have ge := pG_e (T := T) (so := so) (f := f) (md := 8) (o := o + 1) (p := tE T n p) (by omega) (by omega) es.2 hf1
        obtain ⟨I3, c1, c2, c3⟩ := xP_S (d := d + 3) (J := J) (c := 93) hx (by omega) (txX_f hT fr1) (fun q => ⟨(ge.2 q).2.1, by have := ge.2 q; omega⟩) (by omega) b2
        have a1' : am_E (d + 8) 19 0 [(0, .ref 8)] [] (I, J, R, 138) = some (some (.int (am_i 1)), (I1, J, R, 138)) := a1
        have b1' : am_E (d + 8) 20 0 [(0, .ref 8)] [] (I1, J, R, 138) = some (none, (I2, J, R, 138)) := b1
        have c1' : am_E (d + 8) 85 0 [(0, .ref 5), (1, .int (am_i 93))] [] (I2, J, R, 138) = some (none, (I3, J, R, 138)) := c1
        refine ⟨am_up I3 8 4 (I3 8 4 - am_i 1), ?_, xP_s a3 (fun k => a5 _ _ (by omega) (by omega)) fr1 (xP_o c2)⟩
        rw [sg_X3_fact_0]
        simp (disch := first | assumption | omega) only [rX hx, ly_csx, ly_cax, ly_cf, ly_kd, ly_ln, ↓Bool.cond_decide, cond_true, cond_false, ↓bI_p, ↓bV_p, ↓bL_p, bIJ_s, bVJ_s, bLJ_s, ↓am_let_s, Nat.blt, Nat.ble, Bool.and_true, Bool.true_and, Bool.and_self, Int.cast_ofNat_Int, w22, b01_f q22', b01_f q22, s91, b01_t q91', b01_t q91, am0z, am1z, a1', b1', c1', sg_X3_fact_173, ne_eq, not_true_eq_false, not_false_eq_true, ↓reduceIte]
    · rw [if_neg q91]
      have q91' : ¬ tSg T n p = ((91 : Nat) : Int) := q91
      by_cases q23 : tW T n p = 23
      · rw [if_pos q23]
        have q23' : tW T n p = ((23 : Nat) : Int) := q23
        have es := tE_s hp (tW_0 (T := T) (n := n) (p := p) (by omega))
        obtain ⟨I1, a1, a2, a3, a4⟩ := x_go (d := d + 4) (J := J) hx hT hp hs (tW_4 (T := T) (n := n) (p := p) (by omega))
        have h0 : xP T n o sz ac (pA (0, tE T n p)) I I1 := xP_0 hF (by omega) hac ⟨fun _ => ⟨a2, a3⟩, fun e => absurd rfl e⟩ a4
        obtain ⟨I2, z1, z2, -⟩ := xP_E (J := J) hx hac (t := (4, 0)) (by intro e; cases e) (fun _ => by show sz + 0 < 1600; omega) h0
        have a1' : am_E (d + 8) 73 0 [(0, .ref 5)] [] (I, J, R, 138) = some (none, (I1, J, R, 138)) := a1
        have z1' : ∀ d, am_E (d + 1) 18 0 [(0, .ref 8), (1, .int (am_i 1))] [] (I1, J, R, 138) = some (none, (I2, J, R, 138)) := z1
        refine ⟨I2, ?_, z2⟩
        rw [sg_X3_fact_0]
        simp (disch := first | assumption | omega) only [rX hx, ly_csx, ly_cax, ly_cf, ly_kd, ly_ln, ↓Bool.cond_decide, cond_true, cond_false, ↓bI_p, ↓bV_p, ↓bL_p, bIJ_s, bVJ_s, bLJ_s, ↓am_let_s, Nat.blt, Nat.ble, Bool.and_true, Bool.true_and, Bool.and_self, Int.cast_ofNat_Int, w22, b01_f q22', b01_f q22, s91, b01_f q91', b01_f q91, w23, b01_t q23', b01_t q23, am0z, am1z, a1', z1', sg_X3_fact_173, ne_eq, not_true_eq_false, not_false_eq_true, ↓reduceIte]
      · rw [if_neg q23]
        have q23' : ¬ tW T n p = ((23 : Nat) : Int) := q23
        -- a comparison
        have hf3 : 10 * (n - p) + 3 + 1 ≤ f := by omega
        obtain ⟨I1, a1, a2⟩ := ih 3 o p (d + 8) sz ac 0 I (by omega) ho hp hf3 (by show 10 * (6 - o) + 11 ≤ d + 8; omega) hT hs hF hsz hac (by omega)
        have a1' : am_E (d + 8) 24 0 [(0, .ref 8)] [] (I, J, R, 138) = some (none, (I1, J, R, 138)) := a1
        have ge := pG_e (T := T) (so := so) (f := f) (md := 3) (o := o) (p := p) (by omega) ho hp hf3
        by_cases q : (pG T n so f 3 o p).1 = 0
        · obtain ⟨g1, g2, g3⟩ := ge.2 q
          have g1' : p + 1 ≤ (pG T n so f 3 o p).2.1 := g1
          obtain ⟨c1, c2, c3, c4, c5, c6, c7⟩ := a2.1 q
          have hT1 := txX_f hT a2.2.2
          have sh := fun d => e_signHere (d := d) (J := J) (R := R) (vw_p hT1 c1)
          have hF1 := xP_f hF a2 q
          by_cases qs : tSg T n (pG T n so f 3 o p).2.1 = 60 ∨ tSg T n (pG T n so f 3 o p).2.1 = 62 ∨ tSg T n (pG T n so f 3 o p).2.1 = 61
          · have es := tE_s g2 (tSg_0 (T := T) (n := n) (p := (pG T n so f 3 o p).2.1) (by omega))
            obtain ⟨c, hc⟩ : ∃ c : Nat, tSg T n (pG T n so f 3 o p).2.1 = c := ⟨(tSg T n (pG T n so f 3 o p).2.1).toNat, by omega⟩
            obtain ⟨I2, b1, b2, b3, b4⟩ := x_go (d := d + 4) (J := J) hx hT1 g2 c1 (tSg_4 (T := T) (n := n) (p := (pG T n so f 3 o p).2.1) (by omega))
            have hF2 : fS so o (sz + (pG T n so f 3 o p).2.2.length) (acS ac (pG T n so f 3 o p).2.2) I2 := ⟨by rw [b4 _ _ (by omega)]; exact hF1.1, by rw [b4 _ _ (by omega)]; exact hF1.2.1, by rw [b4 _ _ (by omega)]; exact hF1.2.2.1, by rw [b4 _ _ (by omega)]; exact hF1.2.2.2⟩
            have hf4 : 10 * (n - tE T n (pG T n so f 3 o p).2.1) + 3 + 1 ≤ f := by omega
            obtain ⟨I3, d1, d2⟩ := ih 3 o (tE T n (pG T n so f 3 o p).2.1) (d + 8) (sz + (pG T n so f 3 o p).2.2.length) (acS ac (pG T n so f 3 o p).2.2) 0 I2 (by omega) ho es.2 hf4 (by show 10 * (6 - o) + 11 ≤ d + 8; omega) (txX_f hT1 (frF_5 b4)) b2 hF2 (by omega) acS_b (by omega)
            have ge2 := pG_e (T := T) (so := so) (f := f) (md := 3) (o := o) (p := tE T n (pG T n so f 3 o p).2.1) (by omega) ho es.2 hf4
            obtain ⟨I4, z1, z2, -⟩ := xP_E (J := J) hx acS_b (t := (3, c)) (by intro e; cases e) (fun q => by have := ge2.2 q; omega) d2
            have b1' : am_E (d + 8) 73 0 [(0, .ref 5)] [] (I1, J, R, 138) = some (none, (I2, J, R, 138)) := b1
            have d1' : am_E (d + 8) 24 0 [(0, .ref 8)] [] (I2, J, R, 138) = some (none, (I3, J, R, 138)) := d1
            have z1' : ∀ d, am_E (d + 1) 18 0 [(0, .ref 8), (1, .int (am_i ((30000 : Int) + (c : Int))))] [] (I3, J, R, 138) = some (none, (I4, J, R, 138)) := z1
            have ew : am_i 30000 + am_i (c : Int) = am_i ((30000 : Int) + (c : Int)) := am_i_add _ _
            have f153 : am_E (d + 9) 22 153 [(0, .ref 8), (1, .int (am_i c))] [] (I1, J, R, 138) = some (none, (I4, J, R, 138)) := by
              rw [sg_X3_fact_153]
              simp (disch := first | assumption | omega) only [rX hx, ly_csx, ly_cax, ly_cf, ly_kd, ly_ln, ↓Bool.cond_decide, cond_true, cond_false, ↓bI_p, ↓bV_p, ↓bL_p, bIJ_s, bVJ_s, bLJ_s, ↓am_let_s, Nat.blt, Nat.ble, Bool.and_true, Bool.true_and, Bool.and_self, Int.cast_ofNat_Int, b1', d1', ew, z1', sg_X3_fact_173]
            refine ⟨I4, ?_, ?_⟩
            · rw [hc] at sh qs
              rw [sg_X3_fact_0]
              by_cases c60 : c = 60
              · simp (disch := first | assumption | omega) only [rX hx, ly_csx, ly_cax, ly_cf, ly_kd, ly_ln, ↓Bool.cond_decide, cond_true, cond_false, ↓bI_p, ↓bV_p, ↓bL_p, bIJ_s, bVJ_s, bLJ_s, ↓am_let_s, Nat.blt, Nat.ble, Bool.and_true, Bool.true_and, Bool.and_self, Int.cast_ofNat_Int, w22, b01_f q22', b01_f q22, s91, b01_f q91', b01_f q91, w23, b01_f q23', b01_f q23, am0z, am1z, a1', sh, b01_T, b01_F, n_eq, eq_T, eq_F, ne_eq, not_true_eq_false, not_false_eq_true, ↓reduceIte, f153]
              · by_cases c62 : c = 62
                · simp (disch := first | assumption | omega) only [rX hx, ly_csx, ly_cax, ly_cf, ly_kd, ly_ln, ↓Bool.cond_decide, cond_true, cond_false, ↓bI_p, ↓bV_p, ↓bL_p, bIJ_s, bVJ_s, bLJ_s, ↓am_let_s, Nat.blt, Nat.ble, Bool.and_true, Bool.true_and, Bool.and_self, Int.cast_ofNat_Int, w22, b01_f q22', b01_f q22, s91, b01_f q91', b01_f q91, w23, b01_f q23', b01_f q23, am0z, am1z, a1', sh, b01_T, b01_F, n_eq, eq_T, eq_F, ne_eq, not_true_eq_false, not_false_eq_true, ↓reduceIte, f153]
                · simp (disch := first | assumption | omega) only [rX hx, ly_csx, ly_cax, ly_cf, ly_kd, ly_ln, ↓Bool.cond_decide, cond_true, cond_false, ↓bI_p, ↓bV_p, ↓bL_p, bIJ_s, bVJ_s, bLJ_s, ↓am_let_s, Nat.blt, Nat.ble, Bool.and_true, Bool.true_and, Bool.and_self, Int.cast_ofNat_Int, w22, b01_f q22', b01_f q22, s91, b01_f q91', b01_f q91, w23, b01_f q23', b01_f q23, am0z, am1z, a1', sh, b01_T, b01_F, n_eq, eq_T, eq_F, ne_eq, not_true_eq_false, not_false_eq_true, ↓reduceIte, f153]
            · refine xP_t q a2 ?_
              show xP T n o _ _ (if tSg T n (pG T n so f 3 o p).2.1 = 60 ∨ tSg T n (pG T n so f 3 o p).2.1 = 62 ∨ tSg T n (pG T n so f 3 o p).2.1 = 61 then _ else _) I1 I4
              rw [if_pos qs, hc, Int.toNat_natCast]
              exact xP_s b3 (fun k => b4 _ _ (by omega)) (frF_5 b4) z2
          · have fh := fun d => x_flH (d := d) (J := J) (R := R) (I := I1) c1.2.2.2.2.1
            rw [c1.2.2.1] at fh
            have fh' : ∀ d, am_E (d + 2) 72 0 [(0, .ref 5)] [] (I1, J, R, 138) = some (none, (am_up (am_up (am_up I1 5 10 (am_i (1 : Nat))) 5 11 (am_i (tAt T n (pG T n so f 3 o p).2.1))) 5 5 (am_i 4), J, R, 138)) := fh
            obtain ⟨k1, k2⟩ := fl_ft (so := so) (e := 1) (pl := tAt T n (pG T n so f 3 o p).2.1) hF1 (by omega) acS_b
            have sb : -1 ≤ tSg T n (pG T n so f 3 o p).2.1 ∧ tSg T n (pG T n so f 3 o p).2.1 < 256 := by
              have := vw_p hT1 c1
              exact ⟨this.2.2.2.2.2.2.2.2.1, this.2.2.2.2.2.2.2.2.2⟩
            refine ⟨_, ?_, xP_t q a2 (I2 := am_up (am_up (am_up I1 5 10 (am_i (1 : Nat))) 5 11 (am_i (tAt T n (pG T n so f 3 o p).2.1))) 5 5 (am_i 4)) ?_⟩
            · rw [sg_X3_fact_0]
              have n60 : ¬ tSg T n (pG T n so f 3 o p).2.1 = 60 := fun e => qs (Or.inl e)
              have n62 : ¬ tSg T n (pG T n so f 3 o p).2.1 = 62 := fun e => qs (Or.inr (Or.inl e))
              have n61 : ¬ tSg T n (pG T n so f 3 o p).2.1 = 61 := fun e => qs (Or.inr (Or.inr e))
              simp (disch := first | assumption | omega) only [rX hx, ly_csx, ly_cax, ly_cf, ly_kd, ly_ln, ↓Bool.cond_decide, cond_true, cond_false, ↓bI_p, ↓bV_p, ↓bL_p, bIJ_s, bVJ_s, bLJ_s, ↓am_let_s, Nat.blt, Nat.ble, Bool.and_true, Bool.true_and, Bool.and_self, Int.cast_ofNat_Int, w22, b01_f q22', b01_f q22, s91, b01_f q91', b01_f q91, w23, b01_f q23', b01_f q23, am0z, am1z, a1', sh, b01_T, b01_F, n_eq, eq_T, eq_F, ne_eq, not_true_eq_false, not_false_eq_true, ↓reduceIte, fh']
            · show xP T n o _ _ (if tSg T n (pG T n so f 3 o p).2.1 = 60 ∨ tSg T n (pG T n so f 3 o p).2.1 = 62 ∨ tSg T n (pG T n so f 3 o p).2.1 = 61 then _ else _) I1 _
              rw [if_neg qs]
              exact xP_e (by omega) k1 k2
        · have ft := a2.2.1 q
          have sh := fun d => e_signHere (d := d) (J := J) (R := R) (vw_F ft.1)
          have fh := fun d => x_flHF (d := d) (J := J) (R := R) ft.1.2.1 q (by omega)
          refine ⟨I1, ?_, xP_n q ft a2.2.2⟩
          rw [sg_X3_fact_0]
          simp (disch := first | assumption | omega) only [rX hx, ly_csx, ly_cax, ly_cf, ly_kd, ly_ln, ↓Bool.cond_decide, cond_true, cond_false, ↓bI_p, ↓bV_p, ↓bL_p, bIJ_s, bVJ_s, bLJ_s, ↓am_let_s, Nat.blt, Nat.ble, Bool.and_true, Bool.true_and, Bool.and_self, Int.cast_ofNat_Int, w22, b01_f q22', b01_f q22, s91, b01_f q91', b01_f q91, w23, b01_f q23', b01_f q23, am0z, am1z, a1', sh, b01_T, b01_F, n_eq, eq_T, eq_F, ne_eq, not_true_eq_false, not_false_eq_true, ↓reduceIte, fh]
theorem x_G (hx : st_Rx R) (hso : so ≤ 3) : ∀ f, xGs J R T n so f
  | 0 => fun md o p e sz ac i I _ _ _ hf => by omega
  | f + 1 => fun md o p e sz ac i I hmd ho hp hf he hT hs hF hsz hac hi => by
    have ih := x_G hx hso f
    have hmd' : md = 0 ∨ md = 1 ∨ md = 2 ∨ md = 3 ∨ md = 4 ∨ md = 5 ∨ md = 6 ∨ md = 7 ∨ md = 8 ∨ md = 9 := by omega
    rcases hmd' with rfl | rfl | rfl | rfl | rfl | rfl | rfl | rfl | rfl | rfl
    · exact x_m0 hx hso ih ho hp hf he hT hs hF hsz hac
    · exact x_m1 hx ih ho hp hf he hT hs hF hsz hac
    · exact x_m2 hx ih ho hp hf he hT hs hF hsz hac hi
    · exact x_m3 hx ih ho hp hf he hT hs hF hsz hac
    · exact x_m4 hx ih ho hp hf he hT hs hF hsz hac hi
    · exact x_m5 hx ih ho hp hf he hT hs hF hsz hac
    · exact x_m6 hx ih ho hp hf he hT hs hF hsz hac
    · exact x_m7 hx ih ho hp hf he hT hs hF hsz hac hi
    · exact x_m8 hx ih ho hp hf he hT hs hF hsz hac
    · exact x_m9 hx ih ho hp hf he hT hs hF hsz hac hi
end XFA
