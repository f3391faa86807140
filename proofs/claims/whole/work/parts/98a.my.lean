/-! ===== the yard of the reference: a state, a failed state ===== -/
def nbW (W : List Nat) : Nat := (W.filter (fun w => Nat.ble 12 w)).length
def yS (T : Nat → Nat) (n so b z p o : Nat) (W : List Nat) (C : List Int) (I : tI) : Prop := txM T n I ∧ mrX T n p I ∧ sS so o b W C I ∧ p ≤ n ∧ C.length + W.length + 1 + z ≤ p ∧ nbW W = o ∧ b ≤ W.length
def yE (T : Nat → Nat) (n so b z e pl : Nat) (I : tI) : Prop := txM T n I ∧ e ≠ 0 ∧ e < 9 ∧ I 64 5 = am_i e ∧ I 64 6 = am_i pl ∧ ∃ (o : Nat) (W : List Nat) (C : List Int), sS so o b W C I ∧ C.length + W.length + z ≤ n
/-- what may change -/
def yQ (q k : Nat) : Prop := mlC q k ∨ sqC q k
def yN (I I' : tI) : Prop := ∀ q k, ¬ yQ q k → I' q k = I q k
section MY
variable {d : Nat} {J : tJ} {R : tR} {T : Nat → Nat} {n so b z p o : Nat} {W : List Nat} {C : List Int} {I I' I'' : tI}
theorem yN_r : yN I I := fun _ _ _ => rfl
theorem yN_t (h : yN I I') (h2 : yN I' I'') : yN I I'' := fun q k e => by rw [h2 q k e, h q k e]
theorem yN_m (h : ∀ q k, ¬ mlC q k → I' q k = I q k) : yN I I' := fun q k e => h q k (fun c => e (Or.inl c))
theorem yN_q (h : ∀ q k, ¬ sqC q k → I' q k = I q k) : yN I I' := fun q k e => h q k (fun c => e (Or.inr c))
theorem yN_a : yN I (atP T n p I) := yN_m (fun q k e => atP_o (by unfold mlC at e; omega))
theorem nbW_c {w : Nat} : nbW (w :: W) = (if 12 ≤ w then 1 else 0) + nbW W := by
  unfold nbW
  by_cases q : 12 ≤ w
  · rw [List.filter_cons_of_pos (by rw [Nat.ble_eq]; exact q), if_pos q, List.length_cons]; omega
  · rw [List.filter_cons_of_neg (by rw [Nat.ble_eq]; exact q), if_neg q]; omega
theorem nbW_a {ops : List Nat} : nbW (ops ++ W) = nbW ops + nbW W := by
  unfold nbW
  rw [List.filter_append, List.length_append]
theorem nbW_0 : ∀ {ops : List Nat}, (∀ w ∈ ops, w < 12) → nbW ops = 0
  | [], _ => rfl
  | w :: ops, h => by
    have := h w List.mem_cons_self
    rw [nbW_c, if_neg (by omega), nbW_0 (fun x hx => h x (List.mem_cons_of_mem _ hx))]
theorem nb60 : ∀ {W : List Nat}, (W.filter (fun w => Nat.ble 60 w)).length ≤ nbW W
  | [] => Nat.le_refl _
  | w :: W => by
    have ih := nb60 (W := W)
    rw [nbW_c]
    by_cases q : 60 ≤ w
    · rw [List.filter_cons_of_pos (by rw [Nat.ble_eq]; exact q), if_pos (by omega), List.length_cons]; omega
    · rw [List.filter_cons_of_neg (by rw [Nat.ble_eq]; exact q)]
      omega
theorem mrX_c (h : mrX T n p I) (e : ∀ k, k = 2 ∨ k = 3 ∨ k = 4 ∨ k = 5 ∨ k = 6 → I' 64 k = I 64 k) : mrX T n p I' := by
  unfold mrX at h ⊢
  rw [e 2 (by omega), e 3 (by omega), e 4 (by omega), e 5 (by omega), e 6 (by omega)]
  exact h
theorem sS_m (h : sS so o b W C I) (e : ∀ q k, ¬ mlC q k → I' q k = I q k) : sS so o b W C I' := sS_c h (fun q k c => e q k (by unfold mlC; omega))
theorem txM_y (h : txM T n I) (e : yN I I') : txM T n I' := txM_c h (fun q k c => e q k (by
  have : q ≠ 64 ∧ q ≠ 134 ∧ q ≠ 135 := by
    rcases c with c | c
    · omega
    · refine ⟨fix_n c, fun q' => ?_, fun q' => ?_⟩ <;> subst q' <;> exact absurd c (by decide)
  unfold yQ mlC sqC
  omega))
theorem yS_m {p' : Nat} (h : yS T n so b z p o W C I) (hr : mrX T n p' I') (e : ∀ q k, ¬ mlC q k → I' q k = I q k) (h1 : p ≤ p') (h2 : p' ≤ n) : yS T n so b z p' o W C I' := by
  obtain ⟨a1, a2, a3, a4, a5, a6⟩ := h
  exact ⟨txM_y a1 (yN_m e), hr, sS_m a3 e, h2, by omega, a6⟩
theorem yS_a (h : yS T n so b z p o W C I) : yS T n so b z p o W C (atP T n p I) := yS_m h (mrX_a h.2.1 h.2.2.2.1) (fun q k e => atP_o (by unfold mlC at e; omega)) (Nat.le_refl _) h.2.2.2.1
theorem yS_q {o' : Nat} {W' : List Nat} {C' : List Int} (h : yS T n so b z p o W C I) (hs : sS so o' b W' C' I') (e : ∀ q k, ¬ sqC q k → I' q k = I q k) (h1 : C'.length + W'.length + 1 + z ≤ p) (h2 : nbW W' = o') (h3 : b ≤ W'.length) : yS T n so b z p o' W' C' I' := by
  obtain ⟨a1, a2, a3, a4, a5, a6⟩ := h
  exact ⟨txM_y a1 (yN_q e), mrX_c a2 (fun k hk => e _ _ (by unfold sqC; omega)), hs, a4, h1, h2, h3⟩
theorem yE_m {e pl : Nat} (h : yS T n so b z p o W C I) (he : e ≠ 0) (he9 : e < 9) (h5 : I' 64 5 = am_i e) (h6 : I' 64 6 = am_i pl) (hc : ∀ q k, ¬ mlC q k → I' q k = I q k) : yE T n so b z e pl I' := by
  obtain ⟨a1, a2, a3, a4, a5, a6⟩ := h
  exact ⟨txM_y a1 (yN_m hc), he, he9, h5, h6, o, W, C, sS_m a3 hc, by omega⟩
theorem yE_r {r : Nat × Nat} (h : yS T n so b z p o W C I) (hr : rdM T n r I') (he : r.1 ≠ 0) (he9 : r.1 < 9) (hc : ∀ q k, ¬ mlC q k → I' q k = I q k) : yE T n so b z r.1 r.2 I' := yE_m h he he9 (hr.2 he).1 (hr.2 he).2 hc
theorem i5_n {e : Nat} (he : e ≠ 0) (h9 : e < 9) : am_i (e : Int) ≠ 0 := by
  intro c
  have c' : am_i (e : Int) = am_i 0 := c
  have := congrArg Int32.toInt c'
  rw [am_i_toInt (by omega) (by omega), am_i_toInt (by omega) (by omega)] at this
  omega
theorem yE_5 {e pl : Nat} (h : yE T n so b z e pl I) : (I 64 5 = 0) = False := eq_false (by rw [h.2.2.2.1]; exact i5_n h.2.1 h.2.2.1)
/-- a failed part goes on to its end -/
theorem e_pErr (hm : st_Rm R) {e pl : Nat} (h : yE T n so b z e pl I) : am_E (d + 1) 270 2 [(0, .ref 64), (1, .int (am_i 1))] [] (I, J, R, 138) = some (none, (I, J, R, 138)) := by
  have h5 := yE_5 h
  rw [sg_X12_qPartTold_2]
  simp (disch := first | assumption | omega) only [rM hm, ly_csm, ly_cam, ly_cf, ly_kd, ly_ln, ↓Bool.cond_decide, cond_true, cond_false, ↓bI_p, ↓bV_p, ↓bL_p, bIJ_s, bVJ_s, bLJ_s, ↓am_let_s, Nat.blt, Nat.ble, Bool.and_true, Bool.true_and, Bool.and_self, Int.cast_ofNat_Int, am_i_add, am_i_sub, am_i_mul, am_ok_i, am_i_cl, n_lt, n_le, n_eq, n_lt0, n_le0, n_0lt, n_0le, n_eq0, ne_eq, ↓reduceIte, not_true_eq_false, not_false_eq_true, and_true, true_and, and_false, false_and, eq_T, eq_F, lt_T, lt_F, le_T, le_F, qn_T, qn_F, and_F, b01_T, b01_F, e_isIn, Int32.toInt_toInt64, am_i_toInt, am_l_toInt, Int.toNat_natCast, Int.reduceToNat, Int.reduceAdd, Int.reduceSub, Int.reduceMul, Int.reduceNeg, Nat.reduceAdd, Nat.reduceMul, Nat.add_zero, Nat.mul_zero, Nat.zero_add, am_zb0, am_zb1, h5, sg_X12_qPartTold_186]
theorem sg_n {c : Nat} (hn : tSg T n p = c) (hR : mrX T n p I) (hp : p ≤ n) (e2 : I' 64 2 = am_i (tE T n p)) (e : ∀ q k, ¬ (q = 64 ∧ k = 2) → I' q k = I q k) : mrX T n (tE T n p) I' := by
  have k := tSg_3 hn
  have eE := tE_3 k
  have ab := tAt_b (T := T) hp
  obtain ⟨h3, h5, a, e', a1, a2, a3, a4, a5, a6, a7, a8⟩ := hR
  refine ⟨by rw [e _ _ (by omega)]; exact h3, by rw [e _ _ (by omega)]; exact h5, tE T n p, e', Nat.le_refl _, sp_ge _, a3, by omega, ⟨fun h => by omega, fun h => absurd h (gP_3 k)⟩, e2, by rw [e _ _ (by omega)]; exact a7, by rw [e _ _ (by omega)]; exact a8⟩
theorem tE_sg {c : Nat} (h : tSg T n p = c) (hp : p ≤ n) : p < tE T n p ∧ tE T n p ≤ n := tE_s hp (by rw [tSg_3 h]; decide)
theorem tE_wd {c : Nat} (h : tW T n p = c) (hp : p ≤ n) : p < tE T n p ∧ tE T n p ≤ n := tE_s hp (by rw [tW_1 h]; decide)
/-- an opening bracket where a part is asked for -/
theorem e_p40 (hm : st_Rm R) (h : yS T n so b z p o W C I) (hg : tSg T n p = (40 : Nat)) : ∃ I', (o < 6 → am_E (d + 5) 270 2 [(0, .ref 64), (1, .int (am_i 1))] [] (I, J, R, 138) = am_E (d + 5) 270 2 [(0, .ref 64), (1, .int (am_i 1))] [] (I', J, R, 138) ∧ yS T n so b z (tE T n p) (o + 1) (20 :: W) C I') ∧ (6 ≤ o → am_E (d + 5) 270 2 [(0, .ref 64), (1, .int (am_i 1))] [] (I, J, R, 138) = some (none, (I', J, R, 138)) ∧ yE T n so b z 4 (tAt T n p) I') ∧ yN I I' := by
  have ha := yS_a h
  obtain ⟨hT, hR, hS, hp, hl, hnb, hb⟩ := h
  have n16 := hT.1
  have h5 := hR.2.1
  have h5a : atP T n p I 64 5 = am_i 0 := ha.2.1.2.1
  have lk := fun d => e_look (d := d) (J := J) hm hT hp hR
  have qc : tC T n p = ((40 : Nat) : Int) := (tC_S (by decide) (by decide)).mpr hg
  have wq := fun d => (e_wordOf (d := d) (J := J) hm ha.1 hp ha.2.1 (so := so) ha.2.2.1.1).1
  rw [atP_a] at wq
  have a2 : atP T n p I 64 2 = am_i (tAt T n p) := atP_2
  have tb := tE_sg hg hp
  have eE := tE_3 (tSg_3 hg)
  have ab := tAt_b (T := T) hp
  by_cases q : o < 6
  · obtain ⟨I1, b1, b2, b3⟩ := e_qOpens (J := J) hm ha.2.2.1 (w := 20) (pl := am_i (tAt T n p)) (by omega) (by omega) q h5a
    have b1' : ∀ d, am_E (d + 2) 260 0 [(0, .ref 64), (1, .int (am_i 20)), (2, .int (am_i (tAt T n p)))] [] (atP T n p I, J, R, 138) = some (none, (I1, J, R, 138)) := b1
    have c2 : I1 64 2 = am_i (tAt T n p) := by rw [b3 _ _ (by unfold sqC; omega)]; exact a2
    have m1 : mrX T n p I1 := mrX_c ha.2.1 (fun k hk => b3 _ _ (by unfold sqC; omega))
    have m2 : mrX T n (tE T n p) (am_up I1 64 2 (am_i (tE T n p))) := sg_n hg m1 hp am_up_e (fun q k e => am_up_o e)
    refine ⟨am_up I1 64 2 (am_i (tE T n p)), fun _ => ⟨?_, ?_⟩, fun c => absurd q (by omega), ?_⟩
    · conv => lhs; rw [sg_X12_qPartTold_2]
      rw [eE]
      simp (disch := first | assumption | omega) only [rM hm, ly_csm, ly_cam, ly_cf, ly_kd, ly_ln, ↓Bool.cond_decide, cond_true, cond_false, ↓bI_p, ↓bV_p, ↓bL_p, bIJ_s, bVJ_s, bLJ_s, ↓am_let_s, Nat.blt, Nat.ble, Bool.and_true, Bool.true_and, Bool.and_self, Int.cast_ofNat_Int, am_i_add, am_i_sub, am_i_mul, am_ok_i, am_i_cl, n_lt, n_le, n_eq, n_lt0, n_le0, n_0lt, n_0le, n_eq0, ne_eq, ↓reduceIte, not_true_eq_false, not_false_eq_true, and_true, true_and, and_false, false_and, eq_T, eq_F, lt_T, lt_F, le_T, le_F, qn_T, qn_F, and_F, b01_T, b01_F, e_isIn, Int32.toInt_toInt64, am_i_toInt, am_l_toInt, Int.toNat_natCast, Int.reduceToNat, Int.reduceAdd, Int.reduceSub, Int.reduceMul, Int.reduceNeg, Nat.reduceAdd, Nat.reduceMul, Nat.add_zero, Nat.mul_zero, Nat.zero_add, am_zb0, am_zb1, h5, lk, qc, wq, b1', a2, c2, am_i_s, sg_X12_qPartTold_183]
    · refine ⟨txM_y (txM_y ha.1 (yN_q b3)) (yN_m (fun q k e => am_up_o (by unfold mlC at e; omega))), m2, sS_m b2 (fun q k e => am_up_o (by unfold mlC at e; omega)), tb.2, by show C.length + (W.length + 1) + 1 + z ≤ _; omega, by rw [nbW_c, if_pos (by omega), hnb]; omega, by show b ≤ W.length + 1; omega⟩
    · exact yN_t yN_a (yN_t (yN_q b3) (yN_m (fun q k e => am_up_o (by unfold mlC at e; omega))))
  · have o6 : o = 6 := by have := hS.2.2.2.2.2.2.2.2.2.2; omega
    have e6 := fun d => e_qOpens6 (d := d) (J := J) hm ha.2.2.1 (w := 20) (pl := am_i (tAt T n p)) o6 h5a
    have e6' : ∀ d, am_E (d + 2) 260 0 [(0, .ref 64), (1, .int (am_i 20)), (2, .int (am_i (tAt T n p)))] [] (atP T n p I, J, R, 138) = some (none, (am_up (am_up (atP T n p I) 64 5 (am_i 4)) 64 6 (am_i (tAt T n p)), J, R, 138)) := e6
    have u2 : am_up (am_up (atP T n p I) 64 5 (am_i 4)) 64 6 (am_i (tAt T n p)) 64 2 = am_i (tAt T n p) := by rw [am_up_o (by omega), am_up_o (by omega)]; exact a2
    have fr : ∀ q k, ¬ mlC q k → am_up (am_up (am_up (atP T n p I) 64 5 (am_i 4)) 64 6 (am_i (tAt T n p))) 64 2 (am_i (tAt T n p + 1 : Nat)) q k = atP T n p I q k := fun q k e => by unfold mlC at e; rw [am_up_o (by omega), am_up_o (by omega), am_up_o (by omega)]
    have y1 : yE T n so b z 4 (tAt T n p) (am_up (am_up (am_up (atP T n p I) 64 5 (am_i 4)) 64 6 (am_i (tAt T n p))) 64 2 (am_i (tAt T n p + 1 : Nat))) := yE_m ha (by omega) (by omega) (by rw [am_up_o (by omega), am_up_o (by omega), am_up_e]; rfl) (by rw [am_up_o (by omega), am_up_e]) fr
    have er := fun d => e_pErr (d := d) (J := J) (R := R) hm y1
    refine ⟨_, fun c => absurd c q, fun _ => ⟨?_, y1⟩, yN_t yN_a (yN_m fr)⟩
    rw [sg_X12_qPartTold_2]
    simp (disch := first | assumption | omega) only [rM hm, ly_csm, ly_cam, ly_cf, ly_kd, ly_ln, ↓Bool.cond_decide, cond_true, cond_false, ↓bI_p, ↓bV_p, ↓bL_p, bIJ_s, bVJ_s, bLJ_s, ↓am_let_s, Nat.blt, Nat.ble, Bool.and_true, Bool.true_and, Bool.and_self, Int.cast_ofNat_Int, am_i_add, am_i_sub, am_i_mul, am_ok_i, am_i_cl, n_lt, n_le, n_eq, n_lt0, n_le0, n_0lt, n_0le, n_eq0, ne_eq, ↓reduceIte, not_true_eq_false, not_false_eq_true, and_true, true_and, and_false, false_and, eq_T, eq_F, lt_T, lt_F, le_T, le_F, qn_T, qn_F, and_F, b01_T, b01_F, e_isIn, Int32.toInt_toInt64, am_i_toInt, am_l_toInt, Int.toNat_natCast, Int.reduceToNat, Int.reduceAdd, Int.reduceSub, Int.reduceMul, Int.reduceNeg, Nat.reduceAdd, Nat.reduceMul, Nat.add_zero, Nat.mul_zero, Nat.zero_add, am_zb0, am_zb1, h5, lk, qc, wq, e6', a2, u2, am_i_s, sg_X12_qPartTold_183, er]
theorem e_asE (hm : st_Rm R) {e pl : Nat} {v : Int32} (h : yE T n so b z e pl I) : am_E (d + 1) 175 0 [(0, .ref 64), (1, .int v)] [] (I, J, R, 138) = some (none, (I, J, R, 138)) := by
  have h5 := yE_5 h
  rw [sg_X12_asksSign_0]
  simp (disch := first | assumption | omega) only [rM hm, ly_csm, ly_cam, ly_cf, ly_kd, ly_ln, ↓Bool.cond_decide, cond_true, cond_false, ↓bI_p, ↓bV_p, ↓bL_p, bIJ_s, bVJ_s, bLJ_s, ↓am_let_s, Nat.blt, Nat.ble, Bool.and_true, Bool.true_and, Bool.and_self, Int.cast_ofNat_Int, am_i_add, am_i_sub, am_i_mul, am_ok_i, am_i_cl, n_lt, n_le, n_eq, n_lt0, n_le0, n_0lt, n_0le, n_eq0, ne_eq, ↓reduceIte, not_true_eq_false, not_false_eq_true, and_true, true_and, and_false, false_and, eq_T, eq_F, lt_T, lt_F, le_T, le_F, qn_T, qn_F, and_F, b01_T, b01_F, e_isIn, Int32.toInt_toInt64, am_i_toInt, am_l_toInt, Int.toNat_natCast, Int.reduceToNat, Int.reduceAdd, Int.reduceSub, Int.reduceMul, Int.reduceNeg, Nat.reduceAdd, Nat.reduceMul, Nat.add_zero, Nat.mul_zero, Nat.zero_add, am_zb0, am_zb1, h5, sg_X12_asksSign_24]
theorem e_awE (hm : st_Rm R) {e pl q : Nat} (h : yE T n so b z e pl I) : am_E (d + 1) 173 0 [(0, .ref 64), (1, .ref q)] [] (I, J, R, 138) = some (none, (I, J, R, 138)) := by
  have h5 := yE_5 h
  rw [sg_X12_asks_0]
  simp (disch := first | assumption | omega) only [rM hm, ly_csm, ly_cam, ly_cf, ly_kd, ly_ln, ↓Bool.cond_decide, cond_true, cond_false, ↓bI_p, ↓bV_p, ↓bL_p, bIJ_s, bVJ_s, bLJ_s, ↓am_let_s, Nat.blt, Nat.ble, Bool.and_true, Bool.true_and, Bool.and_self, Int.cast_ofNat_Int, am_i_add, am_i_sub, am_i_mul, am_ok_i, am_i_cl, n_lt, n_le, n_eq, n_lt0, n_le0, n_0lt, n_0le, n_eq0, ne_eq, ↓reduceIte, not_true_eq_false, not_false_eq_true, and_true, true_and, and_false, false_and, eq_T, eq_F, lt_T, lt_F, le_T, le_F, qn_T, qn_F, and_F, b01_T, b01_F, e_isIn, Int32.toInt_toInt64, am_i_toInt, am_l_toInt, Int.toNat_natCast, Int.reduceToNat, Int.reduceAdd, Int.reduceSub, Int.reduceMul, Int.reduceNeg, Nat.reduceAdd, Nat.reduceMul, Nat.add_zero, Nat.mul_zero, Nat.zero_add, am_zb0, am_zb1, h5, sg_X12_asks_24]
theorem e_aqE (hm : st_Rm R) {e pl : Nat} {k : Int} (h : yE T n so b z e pl I) (hk : k = 9 ∨ k = 10) : am_E (d + 2) 268 0 [(0, .ref 64), (1, .int (am_i k))] [] (I, J, R, 138) = some (none, (I, J, R, 138)) := by
  have aw := fun d q => e_awE (d := d) (J := J) (q := q) hm h
  rw [sg_X12_qAsksWord_0]
  rcases hk with rfl | rfl
  · simp (disch := first | assumption | omega) only [rM hm, ly_csm, ly_cam, ly_cf, ly_kd, ly_ln, ↓Bool.cond_decide, cond_true, cond_false, ↓bI_p, ↓bV_p, ↓bL_p, bIJ_s, bVJ_s, bLJ_s, ↓am_let_s, Nat.blt, Nat.ble, Bool.and_true, Bool.true_and, Bool.and_self, Int.cast_ofNat_Int, am_i_add, am_i_sub, am_i_mul, am_ok_i, am_i_cl, n_lt, n_le, n_eq, n_lt0, n_le0, n_0lt, n_0le, n_eq0, ne_eq, ↓reduceIte, not_true_eq_false, not_false_eq_true, and_true, true_and, and_false, false_and, eq_T, eq_F, lt_T, lt_F, le_T, le_F, qn_T, qn_F, and_F, b01_T, b01_F, e_isIn, Int32.toInt_toInt64, am_i_toInt, am_l_toInt, Int.toNat_natCast, Int.reduceToNat, Int.reduceAdd, Int.reduceSub, Int.reduceMul, Int.reduceNeg, Nat.reduceAdd, Nat.reduceMul, Nat.add_zero, Nat.mul_zero, Nat.zero_add, am_zb0, am_zb1, aw, sg_X12_qAsksWord_174]
  · simp (disch := first | assumption | omega) only [rM hm, ly_csm, ly_cam, ly_cf, ly_kd, ly_ln, ↓Bool.cond_decide, cond_true, cond_false, ↓bI_p, ↓bV_p, ↓bL_p, bIJ_s, bVJ_s, bLJ_s, ↓am_let_s, Nat.blt, Nat.ble, Bool.and_true, Bool.true_and, Bool.and_self, Int.cast_ofNat_Int, am_i_add, am_i_sub, am_i_mul, am_ok_i, am_i_cl, n_lt, n_le, n_eq, n_lt0, n_le0, n_0lt, n_0le, n_eq0, ne_eq, ↓reduceIte, not_true_eq_false, not_false_eq_true, and_true, true_and, and_false, false_and, eq_T, eq_F, lt_T, lt_F, le_T, le_F, qn_T, qn_F, and_F, b01_T, b01_F, e_isIn, Int32.toInt_toInt64, am_i_toInt, am_l_toInt, Int.toNat_natCast, Int.reduceToNat, Int.reduceAdd, Int.reduceSub, Int.reduceMul, Int.reduceNeg, Nat.reduceAdd, Nat.reduceMul, Nat.add_zero, Nat.mul_zero, Nat.zero_add, am_zb0, am_zb1, aw, sg_X12_qAsksWord_174]
theorem enB_p : ∀ (W : List Nat) (C : List Int) (o : Nat), nbW W = o → b ≤ W.length → (enB b W C o).1.length + (enB b W C o).2.1.length = W.length + C.length ∧ nbW (enB b W C o).1 = (enB b W C o).2.2 ∧ b ≤ (enB b W C o).1.length
  | [], C, o, h, hb => ⟨rfl, h, hb⟩
  | w :: W, C, o, h, hb => by
    by_cases q : b < W.length + 1 ∧ 60 ≤ w
    · have eE : enB b (w :: W) C o = enB b W (C ++ [(w : Int)]) (o - 1) := if_pos q
      rw [nbW_c, if_pos (by omega)] at h
      obtain ⟨i1, i2, i3⟩ := enB_p W (C ++ [(w : Int)]) (o - 1) (by omega) (by omega)
      rw [eE]
      refine ⟨?_, i2, i3⟩
      rw [i1, List.length_append, List.length_cons, List.length_cons, List.length_nil]
      omega
    · have eE : enB b (w :: W) C o = (w :: W, C, o) := if_neg q
      rw [eE]
      exact ⟨rfl, h, hb⟩
/-- min, max and what is behind them -/
theorem e_pMM (hm : st_Rm R) (h : yS T n so b z p o W C I) (hw : tW T n p = (24 : Nat) ∨ tW T n p = (25 : Nat)) : ∃ I2, am_E (d + 6) 270 2 [(0, .ref 64), (1, .int (am_i 1))] [] (I, J, R, 138) = am_E (d + 6) 270 101 [(0, .ref 64), (1, .int (am_i 1)), (4, .int (b01 (tW T n p = (24 : Nat))))] [] (I2, J, R, 138) ∧ yS T n so b z (tE T n p) o W C I2 ∧ yN I I2 := by
  have h0 := h
  have ha := yS_a h
  obtain ⟨hT, hR, hS, hp, hl, hnb, hb⟩ := h
  have n16 := hT.1
  have h5 := hR.2.1
  have lk := fun d => e_look (d := d) (J := J) hm hT hp hR
  have tb := tC_b (T := T) (n := n) (p := p) (fun k hk => (hT.2.1 k hk).1)
  have k1 : tK T n p = 1 := by rcases hw with c | c <;> exact tW_1 c
  have qn : ¬ tC T n p = 40 := fun c => by
    have := tSg_3 ((tC_S (T := T) (n := n) (p := p) (c := 40) (by decide) (by decide)).mp c)
    omega
  have wq := fun d => (e_wordOf (d := d) (J := J) hm ha.1 hp ha.2.1 (so := so) ha.2.2.1.1).1
  rw [atP_a] at wq
  have i24 := (ih_a (J := J) hm hT hp hR (q := 121) (w := 24) (by decide) (by decide)).2
  have i25 := (ih_a (J := J) hm hT hp hR (q := 122) (w := 25) (by decide) (by decide)).2
  obtain ⟨I1, t1, t2, t3, t4⟩ := m_takes (d := d + 2) (J := J) hm ha.1 hp ha.2.1 (q := 121) (by decide)
  have tE' : p < tE T n p ∧ tE T n p ≤ n := tE_s hp (by omega)
  have w24 : wdQ 121 = 24 := by decide
  have w25 : wdQ 122 = 25 := by decide
  rw [w24] at t1 t2 t3
  by_cases q : tW T n p = (24 : Nat)
  · have fr : ∀ a k, ¬ mlC a k → I1 a k = atP T n p I a k := fun a k e => t4 a k (by unfold mlC at e; omega)
    refine ⟨I1, ?_, yS_m ha (t2 q) fr (by omega) tE'.2, yN_t yN_a (yN_m fr)⟩
    rw [sg_X12_qPartTold_2]
    simp (disch := first | assumption | omega) only [rM hm, ly_csm, ly_cam, ly_cf, ly_kd, ly_ln, ↓Bool.cond_decide, cond_true, cond_false, ↓bI_p, ↓bV_p, ↓bL_p, bIJ_s, bVJ_s, bLJ_s, ↓am_let_s, Nat.blt, Nat.ble, Bool.and_true, Bool.true_and, Bool.and_self, Int.cast_ofNat_Int, am_i_add, am_i_sub, am_i_mul, am_ok_i, am_i_cl, n_lt, n_le, n_eq, n_lt0, n_le0, n_0lt, n_0le, n_eq0, ne_eq, ↓reduceIte, not_true_eq_false, not_false_eq_true, and_true, true_and, and_false, false_and, eq_T, eq_F, lt_T, lt_F, le_T, le_F, qn_T, qn_F, and_F, b01_T, b01_F, e_isIn, Int32.toInt_toInt64, am_i_toInt, am_l_toInt, Int.toNat_natCast, Int.reduceToNat, Int.reduceAdd, Int.reduceSub, Int.reduceMul, Int.reduceNeg, Nat.reduceAdd, Nat.reduceMul, Nat.add_zero, Nat.mul_zero, Nat.zero_add, am_zb0, am_zb1, h5, lk, wq, i24, b01_t q, sg_X12_qPartTold_78, t1]
  · have q25 : tW T n p = (25 : Nat) := by rcases hw with c | c; exact absurd c q; exact c
    have e1 := t3 q
    rw [atP_a] at e1
    subst e1
    obtain ⟨I2, s1, s2, s3⟩ := m_asks (d := d + 1) (J := J) hm ha.1 hp ha.2.1 (q := 122) (by decide)
    rw [w25] at s2
    unfold aW at s2
    rw [if_pos q25] at s2
    refine ⟨I2, ?_, yS_m ha (s2.1 rfl) s3 (by omega) tE'.2, yN_t yN_a (yN_m s3)⟩
    rw [sg_X12_qPartTold_2]
    simp (disch := first | assumption | omega) only [rM hm, ly_csm, ly_cam, ly_cf, ly_kd, ly_ln, ↓Bool.cond_decide, cond_true, cond_false, ↓bI_p, ↓bV_p, ↓bL_p, bIJ_s, bVJ_s, bLJ_s, ↓am_let_s, Nat.blt, Nat.ble, Bool.and_true, Bool.true_and, Bool.and_self, Int.cast_ofNat_Int, am_i_add, am_i_sub, am_i_mul, am_ok_i, am_i_cl, n_lt, n_le, n_eq, n_lt0, n_le0, n_0lt, n_0le, n_eq0, ne_eq, ↓reduceIte, not_true_eq_false, not_false_eq_true, and_true, true_and, and_false, false_and, eq_T, eq_F, lt_T, lt_F, le_T, le_F, qn_T, qn_F, and_F, b01_T, b01_F, e_isIn, Int32.toInt_toInt64, am_i_toInt, am_l_toInt, Int.toNat_natCast, Int.reduceToNat, Int.reduceAdd, Int.reduceSub, Int.reduceMul, Int.reduceNeg, Nat.reduceAdd, Nat.reduceMul, Nat.add_zero, Nat.mul_zero, Nat.zero_add, am_zb0, am_zb1, h5, lk, wq, i24, i25, b01_f q, b01_t q25, sg_X12_qPartTold_78, t1, s1]
theorem e_pM2 (hm : st_Rm R) {v : Int} (hv : v = 0 ∨ v = 1) (h : yS T n so b z p o W C I) : ∃ I', (tSg T n p = (40 : Nat) → o < 6 → am_E (d + 6) 270 101 [(0, .ref 64), (1, .int (am_i 1)), (4, .int (am_i v))] [] (I, J, R, 138) = am_E (d + 6) 270 2 [(0, .ref 64), (1, .int (am_i 1))] [] (I', J, R, 138) ∧ yS T n so b z (tE T n p) (o + 1) ((if v = 1 then 21 else 22) :: W) C I') ∧ (tSg T n p = (40 : Nat) → 6 ≤ o → am_E (d + 6) 270 101 [(0, .ref 64), (1, .int (am_i 1)), (4, .int (am_i v))] [] (I, J, R, 138) = some (none, (I', J, R, 138)) ∧ yE T n so b z 4 (tAt T n p) I') ∧ (¬ tSg T n p = (40 : Nat) → am_E (d + 6) 270 101 [(0, .ref 64), (1, .int (am_i 1)), (4, .int (am_i v))] [] (I, J, R, 138) = some (none, (I', J, R, 138)) ∧ yE T n so b z 1 (tAt T n p) I') ∧ yN I I' := by
  have ha := yS_a h
  obtain ⟨hT, hR, hS, hp, hl, hnb, hb⟩ := h
  have n16 := hT.1
  have h5a : atP T n p I 64 5 = am_i 0 := ha.2.1.2.1
  have lk := fun d => e_look (d := d) (J := J) hm hT hp hR
  have tb := tC_b (T := T) (n := n) (p := p) (fun k hk => (hT.2.1 k hk).1)
  have a2 : atP T n p I 64 2 = am_i (tAt T n p) := atP_2
  have ab := tAt_b (T := T) hp
  by_cases hg : tSg T n p = (40 : Nat)
  · have qc : tC T n p = ((40 : Nat) : Int) := (tC_S (by decide) (by decide)).mpr hg
    have tb2 := tE_sg hg hp
    by_cases q : o < 6
    · have go : ∀ w : Nat, w ≤ 61 → 12 ≤ w → ∃ I1 I2, (∀ d, am_E (d + 2) 260 0 [(0, .ref 64), (1, .int (am_i w)), (2, .int (am_i (tAt T n p)))] [] (atP T n p I, J, R, 138) = some (none, (I1, J, R, 138))) ∧ (am_E (d + 5) 175 0 [(0, .ref 64), (1, .int (am_i (40 : Nat)))] [] (I1, J, R, 138) = some (none, (I2, J, R, 138))) ∧ yS T n so b z (tE T n p) (o + 1) (w :: W) C I2 ∧ yN I I2 := fun w w61 w12 => by
        obtain ⟨I1, b1, b2, b3⟩ := e_qOpens (J := J) hm ha.2.2.1 (w := w) (pl := am_i (tAt T n p)) w61 (by omega) q h5a
        have m1 : mrX T n p I1 := mrX_c ha.2.1 (fun k hk => b3 _ _ (by unfold sqC; omega))
        have x1 : txM T n I1 := txM_y ha.1 (yN_q b3)
        obtain ⟨I2, s1, s2, s3⟩ := m_asksSign (d := d + 2) (J := J) hm x1 hp m1 (c := 40) (by decide) (by decide) (by decide)
        unfold aS at s2
        rw [if_pos hg] at s2
        exact ⟨I1, I2, b1, s1, ⟨txM_y x1 (yN_m s3), s2.1 rfl, sS_m b2 s3, tb2.2, by show C.length + (W.length + 1) + 1 + z ≤ _; omega, by rw [nbW_c, if_pos w12, hnb]; omega, by show b ≤ W.length + 1; omega⟩, yN_t yN_a (yN_t (yN_q b3) (yN_m s3))⟩
      rcases hv with rfl | rfl
      · obtain ⟨I1, I2, g1, g2, g3, g4⟩ := go 22 (by omega) (by omega)
        have g1' : ∀ d, am_E (d + 2) 260 0 [(0, .ref 64), (1, .int (am_i 22)), (2, .int (am_i (tAt T n p)))] [] (atP T n p I, J, R, 138) = some (none, (I1, J, R, 138)) := g1
        have g2' : am_E (d + 5) 175 0 [(0, .ref 64), (1, .int (am_i 40))] [] (I1, J, R, 138) = some (none, (I2, J, R, 138)) := g2
        refine ⟨I2, fun _ _ => ⟨?_, g3⟩, fun _ c => absurd q (by omega), fun c => absurd hg c, g4⟩
        rw [sg_X12_qPartTold_101]
        simp (disch := first | assumption | omega) only [rM hm, ly_csm, ly_cam, ly_cf, ly_kd, ly_ln, ↓Bool.cond_decide, cond_true, cond_false, ↓bI_p, ↓bV_p, ↓bL_p, bIJ_s, bVJ_s, bLJ_s, ↓am_let_s, Nat.blt, Nat.ble, Bool.and_true, Bool.true_and, Bool.and_self, Int.cast_ofNat_Int, am_i_add, am_i_sub, am_i_mul, am_ok_i, am_i_cl, n_lt, n_le, n_eq, n_lt0, n_le0, n_0lt, n_0le, n_eq0, ne_eq, ↓reduceIte, not_true_eq_false, not_false_eq_true, and_true, true_and, and_false, false_and, eq_T, eq_F, lt_T, lt_F, le_T, le_F, qn_T, qn_F, and_F, b01_T, b01_F, e_isIn, Int32.toInt_toInt64, am_i_toInt, am_l_toInt, Int.toNat_natCast, Int.reduceToNat, Int.reduceAdd, Int.reduceSub, Int.reduceMul, Int.reduceNeg, Nat.reduceAdd, Nat.reduceMul, Nat.add_zero, Nat.mul_zero, Nat.zero_add, am_zb0, am_zb1, lk, qc, a2, g1', g2', sg_X12_qPartTold_144, sg_X12_qPartTold_183]
      · obtain ⟨I1, I2, g1, g2, g3, g4⟩ := go 21 (by omega) (by omega)
        have g1' : ∀ d, am_E (d + 2) 260 0 [(0, .ref 64), (1, .int (am_i 21)), (2, .int (am_i (tAt T n p)))] [] (atP T n p I, J, R, 138) = some (none, (I1, J, R, 138)) := g1
        have g2' : am_E (d + 5) 175 0 [(0, .ref 64), (1, .int (am_i 40))] [] (I1, J, R, 138) = some (none, (I2, J, R, 138)) := g2
        refine ⟨I2, fun _ _ => ⟨?_, g3⟩, fun _ c => absurd q (by omega), fun c => absurd hg c, g4⟩
        rw [sg_X12_qPartTold_101]
        simp (disch := first | assumption | omega) only [rM hm, ly_csm, ly_cam, ly_cf, ly_kd, ly_ln, ↓Bool.cond_decide, cond_true, cond_false, ↓bI_p, ↓bV_p, ↓bL_p, bIJ_s, bVJ_s, bLJ_s, ↓am_let_s, Nat.blt, Nat.ble, Bool.and_true, Bool.true_and, Bool.and_self, Int.cast_ofNat_Int, am_i_add, am_i_sub, am_i_mul, am_ok_i, am_i_cl, n_lt, n_le, n_eq, n_lt0, n_le0, n_0lt, n_0le, n_eq0, ne_eq, ↓reduceIte, not_true_eq_false, not_false_eq_true, and_true, true_and, and_false, false_and, eq_T, eq_F, lt_T, lt_F, le_T, le_F, qn_T, qn_F, and_F, b01_T, b01_F, e_isIn, Int32.toInt_toInt64, am_i_toInt, am_l_toInt, Int.toNat_natCast, Int.reduceToNat, Int.reduceAdd, Int.reduceSub, Int.reduceMul, Int.reduceNeg, Nat.reduceAdd, Nat.reduceMul, Nat.add_zero, Nat.mul_zero, Nat.zero_add, am_zb0, am_zb1, lk, qc, a2, g1', g2', sg_X12_qPartTold_144, sg_X12_qPartTold_183]
    · have o6 : o = 6 := by have := hS.2.2.2.2.2.2.2.2.2.2; omega
      have fr : ∀ q k, ¬ mlC q k → am_up (am_up (atP T n p I) 64 5 (am_i 4)) 64 6 (am_i (tAt T n p)) q k = atP T n p I q k := fun q k e => by unfold mlC at e; rw [am_up_o (by omega), am_up_o (by omega)]
      have y1 : yE T n so b z 4 (tAt T n p) (am_up (am_up (atP T n p I) 64 5 (am_i 4)) 64 6 (am_i (tAt T n p))) := yE_m ha (by omega) (by omega) (by rw [am_up_o (by omega), am_up_e]; rfl) am_up_e fr
      have er := fun d => e_pErr (d := d) (J := J) (R := R) hm y1
      have ea := fun d v => e_asE (d := d) (J := J) (R := R) (v := v) hm y1
      refine ⟨_, fun _ c => absurd c q, fun _ _ => ⟨?_, y1⟩, fun c => absurd hg c, yN_t yN_a (yN_m fr)⟩
      rcases hv with rfl | rfl
      · have e6 : ∀ d, am_E (d + 2) 260 0 [(0, .ref 64), (1, .int (am_i 22)), (2, .int (am_i (tAt T n p)))] [] (atP T n p I, J, R, 138) = some (none, (am_up (am_up (atP T n p I) 64 5 (am_i 4)) 64 6 (am_i (tAt T n p)), J, R, 138)) := fun d => e_qOpens6 (d := d) (J := J) hm ha.2.2.1 (w := 22) (pl := am_i (tAt T n p)) o6 h5a
        rw [sg_X12_qPartTold_101]
        simp (disch := first | assumption | omega) only [rM hm, ly_csm, ly_cam, ly_cf, ly_kd, ly_ln, ↓Bool.cond_decide, cond_true, cond_false, ↓bI_p, ↓bV_p, ↓bL_p, bIJ_s, bVJ_s, bLJ_s, ↓am_let_s, Nat.blt, Nat.ble, Bool.and_true, Bool.true_and, Bool.and_self, Int.cast_ofNat_Int, am_i_add, am_i_sub, am_i_mul, am_ok_i, am_i_cl, n_lt, n_le, n_eq, n_lt0, n_le0, n_0lt, n_0le, n_eq0, ne_eq, ↓reduceIte, not_true_eq_false, not_false_eq_true, and_true, true_and, and_false, false_and, eq_T, eq_F, lt_T, lt_F, le_T, le_F, qn_T, qn_F, and_F, b01_T, b01_F, e_isIn, Int32.toInt_toInt64, am_i_toInt, am_l_toInt, Int.toNat_natCast, Int.reduceToNat, Int.reduceAdd, Int.reduceSub, Int.reduceMul, Int.reduceNeg, Nat.reduceAdd, Nat.reduceMul, Nat.add_zero, Nat.mul_zero, Nat.zero_add, am_zb0, am_zb1, lk, qc, a2, e6, ea, er, sg_X12_qPartTold_144, sg_X12_qPartTold_183]
      · have e6 : ∀ d, am_E (d + 2) 260 0 [(0, .ref 64), (1, .int (am_i 21)), (2, .int (am_i (tAt T n p)))] [] (atP T n p I, J, R, 138) = some (none, (am_up (am_up (atP T n p I) 64 5 (am_i 4)) 64 6 (am_i (tAt T n p)), J, R, 138)) := fun d => e_qOpens6 (d := d) (J := J) hm ha.2.2.1 (w := 21) (pl := am_i (tAt T n p)) o6 h5a
        rw [sg_X12_qPartTold_101]
        simp (disch := first | assumption | omega) only [rM hm, ly_csm, ly_cam, ly_cf, ly_kd, ly_ln, ↓Bool.cond_decide, cond_true, cond_false, ↓bI_p, ↓bV_p, ↓bL_p, bIJ_s, bVJ_s, bLJ_s, ↓am_let_s, Nat.blt, Nat.ble, Bool.and_true, Bool.true_and, Bool.and_self, Int.cast_ofNat_Int, am_i_add, am_i_sub, am_i_mul, am_ok_i, am_i_cl, n_lt, n_le, n_eq, n_lt0, n_le0, n_0lt, n_0le, n_eq0, ne_eq, ↓reduceIte, not_true_eq_false, not_false_eq_true, and_true, true_and, and_false, false_and, eq_T, eq_F, lt_T, lt_F, le_T, le_F, qn_T, qn_F, and_F, b01_T, b01_F, e_isIn, Int32.toInt_toInt64, am_i_toInt, am_l_toInt, Int.toNat_natCast, Int.reduceToNat, Int.reduceAdd, Int.reduceSub, Int.reduceMul, Int.reduceNeg, Nat.reduceAdd, Nat.reduceMul, Nat.add_zero, Nat.mul_zero, Nat.zero_add, am_zb0, am_zb1, lk, qc, a2, e6, ea, er, sg_X12_qPartTold_144, sg_X12_qPartTold_183]
  · have qn : ¬ tC T n p = 40 := fun c => hg ((tC_S (T := T) (n := n) (p := p) (c := 40) (by decide) (by decide)).mp c)
    obtain ⟨I2, s1, s2, s3⟩ := m_asksSign (d := d + 2) (J := J) hm ha.1 hp ha.2.1 (c := 40) (by decide) (by decide) (by decide)
    unfold aS at s2
    rw [if_neg hg] at s2
    have y1 : yE T n so b z 1 (tAt T n p) I2 := yE_r ha s2 (by show (1 : Nat) ≠ 0; decide) (by show (1 : Nat) < 9; decide) s3
    have er := fun d => e_pErr (d := d) (J := J) (R := R) hm y1
    have s1' : am_E (d + 5) 175 0 [(0, .ref 64), (1, .int (am_i 40))] [] (atP T n p I, J, R, 138) = some (none, (I2, J, R, 138)) := s1
    refine ⟨I2, fun c => absurd c hg, fun c => absurd c hg, fun _ => ⟨?_, y1⟩, yN_t yN_a (yN_m s3)⟩
    rw [sg_X12_qPartTold_101]
    simp (disch := first | assumption | omega) only [rM hm, ly_csm, ly_cam, ly_cf, ly_kd, ly_ln, ↓Bool.cond_decide, cond_true, cond_false, ↓bI_p, ↓bV_p, ↓bL_p, bIJ_s, bVJ_s, bLJ_s, ↓am_let_s, Nat.blt, Nat.ble, Bool.and_true, Bool.true_and, Bool.and_self, Int.cast_ofNat_Int, am_i_add, am_i_sub, am_i_mul, am_ok_i, am_i_cl, n_lt, n_le, n_eq, n_lt0, n_le0, n_0lt, n_0le, n_eq0, ne_eq, ↓reduceIte, not_true_eq_false, not_false_eq_true, and_true, true_and, and_false, false_and, eq_T, eq_F, lt_T, lt_F, le_T, le_F, qn_T, qn_F, and_F, b01_T, b01_F, e_isIn, Int32.toInt_toInt64, am_i_toInt, am_l_toInt, Int.toNat_natCast, Int.reduceToNat, Int.reduceAdd, Int.reduceSub, Int.reduceMul, Int.reduceNeg, Nat.reduceAdd, Nat.reduceMul, Nat.add_zero, Nat.mul_zero, Nat.zero_add, am_zb0, am_zb1, lk, s1', er, sg_X12_qPartTold_144, sg_X12_qPartTold_183]
/-- carry of, score of -/
theorem e_pOf (hm : st_Rm R) (h : yS T n so b z p o W C I) (hs : so = 3) (hw : tW T n p = 9 ∨ tW T n p = 5) : ∃ I', (o < 6 → am_E (d + 6) 270 2 [(0, .ref 64), (1, .int (am_i 1))] [] (I, J, R, 138) = am_E (d + 6) 270 2 [(0, .ref 64), (1, .int (am_i 1))] [] (I', J, R, 138) ∧ yS T n so b z (tE T n p) (o + 1) ((if tW T n p = 9 then 60 else 61) :: W) C I') ∧ (6 ≤ o → am_E (d + 6) 270 2 [(0, .ref 64), (1, .int (am_i 1))] [] (I, J, R, 138) = some (none, (I', J, R, 138)) ∧ yE T n so b z 4 (tAt T n p) I') ∧ yN I I' := by
  have ha := yS_a h
  obtain ⟨hT, hR, hS, hp, hl, hnb, hb⟩ := h
  have n16 := hT.1
  have h5 := hR.2.1
  have h5a : atP T n p I 64 5 = am_i 0 := ha.2.1.2.1
  have lk := fun d => e_look (d := d) (J := J) hm hT hp hR
  have tb := tC_b (T := T) (n := n) (p := p) (fun k hk => (hT.2.1 k hk).1)
  have k1 : tK T n p = 1 := by
    rcases hw with c | c
    · exact tW_1 (w := 9) c
    · exact tW_1 (w := 5) c
  have qn : ¬ tC T n p = 40 := fun c => by
    have := tSg_3 ((tC_S (T := T) (n := n) (p := p) (c := 40) (by decide) (by decide)).mp c)
    omega
  have wq := fun d => (e_wordOf (d := d) (J := J) hm ha.1 hp ha.2.1 (so := so) ha.2.2.1.1).1
  rw [atP_a] at wq
  have i24 := (ih_a (J := J) hm hT hp hR (q := 121) (w := 24) (by decide) (by decide)).2
  have i25 := (ih_a (J := J) hm hT hp hR (q := 122) (w := 25) (by decide) (by decide)).2
  have n24 : ¬ tW T n p = ((24 : Nat) : Int) := by omega
  have n25 : ¬ tW T n p = ((25 : Nat) : Int) := by omega
  have a2 : atP T n p I 64 2 = am_i (tAt T n p) := atP_2
  have tE' : p < tE T n p ∧ tE T n p ≤ n := tE_s hp (by omega)
  have ev : ∃ k : Int, ofI so (tW T n p) = k ∧ qwI (tW T n p) = k ∧ (k = 9 ∨ k = 10) ∧ 60 + k - 9 = ((if tW T n p = 9 then 60 else 61 : Nat) : Int) := by
    rcases hw with c | c
    · refine ⟨9, if_pos ⟨hs, c⟩, by rw [c]; rfl, Or.inl rfl, by rw [if_pos c]; rfl⟩
    · refine ⟨10, by unfold ofI; rw [if_neg (by omega), if_pos ⟨hs, c⟩], by rw [c]; rfl, Or.inr rfl, by rw [if_neg (by omega)]; rfl⟩
  obtain ⟨k, ek, eq, hk, e60⟩ := ev
  have w61 : (if tW T n p = 9 then 60 else 61) ≤ 61 ∧ 12 ≤ (if tW T n p = 9 then 60 else 61) := by split <;> omega
  generalize (if tW T n p = 9 then 60 else 61) = w at *
  rw [ek] at wq
  by_cases q : o < 6
  · obtain ⟨I1, b1, b2, b3⟩ := e_qOpens (J := J) hm ha.2.2.1 (w := w) (pl := am_i (tAt T n p)) w61.1 (by omega) q h5a
    have m1 : mrX T n p I1 := mrX_c ha.2.1 (fun k hk => b3 _ _ (by unfold sqC; omega))
    have x1 : txM T n I1 := txM_y ha.1 (yN_q b3)
    obtain ⟨I2, s1, s2, s3⟩ := e_askW (d := d) (J := J) hm x1 hp m1 eq (by omega)
    refine ⟨I2, fun _ => ⟨?_, ⟨txM_y x1 (yN_m s3), s2, sS_m b2 s3, tE'.2, by show C.length + (W.length + 1) + 1 + z ≤ _; omega, by rw [nbW_c, if_pos w61.2, hnb]; omega, by show b ≤ W.length + 1; omega⟩⟩, fun c => absurd q (by omega), yN_t yN_a (yN_t (yN_q b3) (yN_m s3))⟩
    conv => lhs; rw [sg_X12_qPartTold_2]
    simp (disch := first | assumption | omega) only [rM hm, ly_csm, ly_cam, ly_cf, ly_kd, ly_ln, ↓Bool.cond_decide, cond_true, cond_false, ↓bI_p, ↓bV_p, ↓bL_p, bIJ_s, bVJ_s, bLJ_s, ↓am_let_s, Nat.blt, Nat.ble, Bool.and_true, Bool.true_and, Bool.and_self, Int.cast_ofNat_Int, am_i_add, am_i_sub, am_i_mul, am_ok_i, am_i_cl, n_lt, n_le, n_eq, n_lt0, n_le0, n_0lt, n_0le, n_eq0, ne_eq, ↓reduceIte, not_true_eq_false, not_false_eq_true, and_true, true_and, and_false, false_and, eq_T, eq_F, lt_T, lt_F, le_T, le_F, qn_T, qn_F, and_F, b01_T, b01_F, e_isIn, Int32.toInt_toInt64, am_i_toInt, am_l_toInt, Int.toNat_natCast, Int.reduceToNat, Int.reduceAdd, Int.reduceSub, Int.reduceMul, Int.reduceNeg, Nat.reduceAdd, Nat.reduceMul, Nat.add_zero, Nat.mul_zero, Nat.zero_add, am_zb0, am_zb1, h5, lk, wq, i24, i25, b01_f n24, b01_f n25, a2, e60, b1, s1, sg_X12_qPartTold_183]
  · have o6 : o = 6 := by have := hS.2.2.2.2.2.2.2.2.2.2; omega
    have fr : ∀ q k, ¬ mlC q k → am_up (am_up (atP T n p I) 64 5 (am_i 4)) 64 6 (am_i (tAt T n p)) q k = atP T n p I q k := fun q k e => by unfold mlC at e; rw [am_up_o (by omega), am_up_o (by omega)]
    have y1 : yE T n so b z 4 (tAt T n p) (am_up (am_up (atP T n p I) 64 5 (am_i 4)) 64 6 (am_i (tAt T n p))) := yE_m ha (by omega) (by omega) (by rw [am_up_o (by omega), am_up_e]; rfl) am_up_e fr
    have er := fun d => e_pErr (d := d) (J := J) (R := R) hm y1
    have ea := fun d => e_aqE (d := d) (J := J) (R := R) hm y1 hk
    have e6 := fun d => e_qOpens6 (d := d) (J := J) hm ha.2.2.1 (w := w) (pl := am_i (tAt T n p)) o6 h5a
    refine ⟨_, fun c => absurd c q, fun _ => ⟨?_, y1⟩, yN_t yN_a (yN_m fr)⟩
    rw [sg_X12_qPartTold_2]
    simp (disch := first | assumption | omega) only [rM hm, ly_csm, ly_cam, ly_cf, ly_kd, ly_ln, ↓Bool.cond_decide, cond_true, cond_false, ↓bI_p, ↓bV_p, ↓bL_p, bIJ_s, bVJ_s, bLJ_s, ↓am_let_s, Nat.blt, Nat.ble, Bool.and_true, Bool.true_and, Bool.and_self, Int.cast_ofNat_Int, am_i_add, am_i_sub, am_i_mul, am_ok_i, am_i_cl, n_lt, n_le, n_eq, n_lt0, n_le0, n_0lt, n_0le, n_eq0, ne_eq, ↓reduceIte, not_true_eq_false, not_false_eq_true, and_true, true_and, and_false, false_and, eq_T, eq_F, lt_T, lt_F, le_T, le_F, qn_T, qn_F, and_F, b01_T, b01_F, e_isIn, Int32.toInt_toInt64, am_i_toInt, am_l_toInt, Int.toNat_natCast, Int.reduceToNat, Int.reduceAdd, Int.reduceSub, Int.reduceMul, Int.reduceNeg, Nat.reduceAdd, Nat.reduceMul, Nat.add_zero, Nat.mul_zero, Nat.zero_add, am_zb0, am_zb1, h5, lk, wq, i24, i25, b01_f n24, b01_f n25, a2, e60, e6, ea, er, sg_X12_qPartTold_183]
theorem p2_0 {M : am_Mem} : am_E (d + 1) 270 2 [(0, .ref 64), (1, .int (am_i 0))] [] M = am_E (d + 1) 270 186 [(0, .ref 64)] [] M := by
  rw [sg_X12_qPartTold_2]
  simp (disch := first | assumption | omega) only [↓Bool.cond_decide, cond_true, cond_false, ↓am_let_s, ↓bI_p, bIJ_s, ↓bV_p, bVJ_s, ↓bL_p, bLJ_s, ly_cf, Bool.and_self, Bool.and_true, am_i_add, am_i_sub, am_i_mul, am_ok_i, am_i_cl, n_lt, n_le, n_eq, n_lt0, n_le0, n_0lt, n_0le, n_eq0, ne_eq, ↓reduceIte, not_true_eq_false, not_false_eq_true, and_true, true_and, and_false, false_and, eq_T, eq_F, lt_T, lt_F, le_T, le_F, qn_T, qn_F, and_F, b01_T, b01_F, e_isIn, Int32.toInt_toInt64, am_i_toInt, am_l_toInt, Int.toNat_natCast, Int.reduceToNat, Int.reduceAdd, Int.reduceSub, Int.reduceMul, Int.reduceNeg, Nat.reduceAdd, Nat.reduceMul, Nat.add_zero, Nat.mul_zero, Nat.zero_add, am_zb0, am_zb1]
theorem e_enE (hm : st_Rm R) {e pl : Nat} (h : yE T n so b z e pl I) : am_E (d + 1) 269 0 [(0, .ref 64)] [] (I, J, R, 138) = some (none, (I, J, R, 138)) := by
  have h5 := yE_5 h
  rw [sg_X12_qEndsPart_0]
  simp (disch := first | assumption | omega) only [rM hm, ly_csm, ly_cam, ly_cf, ly_kd, ly_ln, ↓Bool.cond_decide, cond_true, cond_false, ↓bI_p, ↓bV_p, ↓bL_p, bIJ_s, bVJ_s, bLJ_s, ↓am_let_s, Nat.blt, Nat.ble, Bool.and_true, Bool.true_and, Bool.and_self, Int.cast_ofNat_Int, am_i_add, am_i_sub, am_i_mul, am_ok_i, am_i_cl, n_lt, n_le, n_eq, n_lt0, n_le0, n_0lt, n_0le, n_eq0, ne_eq, ↓reduceIte, not_true_eq_false, not_false_eq_true, and_true, true_and, and_false, false_and, eq_T, eq_F, lt_T, lt_F, le_T, le_F, qn_T, qn_F, and_F, b01_T, b01_F, e_isIn, Int32.toInt_toInt64, am_i_toInt, am_l_toInt, Int.toNat_natCast, Int.reduceToNat, Int.reduceAdd, Int.reduceSub, Int.reduceMul, Int.reduceNeg, Nat.reduceAdd, Nat.reduceMul, Nat.add_zero, Nat.mul_zero, Nat.zero_add, am_zb0, am_zb1, h5, sg_X12_qEndsPart_51]
/-- a code, and the part has ended -/
theorem e_pEnd (hm : st_Rm R) {c : Int} (h : yS T n so b z p o W C I) (hl : C.length + W.length + 2 + z ≤ p) : ∃ I1 I2, (∀ d, am_E (d + 1) 259 0 [(0, .ref 64), (1, .int (am_i c))] [] (I, J, R, 138) = some (none, (I1, J, R, 138))) ∧ (∀ d, am_E (d + 3) 269 0 [(0, .ref 64)] [] (I1, J, R, 138) = some (none, (I2, J, R, 138))) ∧ yS T n so b z p (enB b W (C ++ [c]) o).2.2 (enB b W (C ++ [c]) o).1 (enB b W (C ++ [c]) o).2.1 I2 ∧ yN I I2 := by
  have h' := h
  obtain ⟨hT, hR, hS, hp, hl0, hnb, hb⟩ := h'
  have n16 := hT.1
  have lc : (C ++ [c]).length = C.length + 1 := by rw [List.length_append]; rfl
  obtain ⟨I1, a1, a2, a3⟩ := e_qCode (J := J) (c := c) hm hS (by omega)
  have y1 := yS_q h a2 a3 (by omega) hnb hb
  obtain ⟨I2, b1, b2, b3⟩ := e_ends (J := J) hm W (C ++ [c]) o I1 a2 y1.2.1.2.1 (fun _ _ => rfl) (by have := nb60 (W := W); omega)
  obtain ⟨p1, p2, p3⟩ := enB_p W (C ++ [c]) o hnb hb
  exact ⟨I1, I2, a1, b1, yS_q y1 b2 b3 (by omega) p2 p3, yN_t (yN_q a3) (yN_q b3)⟩
theorem vl_i {w : Int} (h : vlB so w = true) : 0 ≤ qwI w ∧ qwI w ≤ 8 ∧ 0 ≤ w ∧ encM (1, w.toNat) = 40 + qwI w := by
  unfold vlB at h
  rw [decide_eq_true_eq] at h
  have hW : w = 14 ∨ w = 3 ∨ w = 4 ∨ w = 15 ∨ w = 12 ∨ w = 16 ∨ w = 17 ∨ w = 18 ∨ w = 19 := by omega
  rcases hW with rfl | rfl | rfl | rfl | rfl | rfl | rfl | rfl | rfl <;> decide
theorem e_p186 (hm : st_Rm R) (h : yS T n so b z p o W C I) (h40 : ¬ tSg T n p = (40 : Nat)) (n24 : ¬ tW T n p = ((24 : Nat) : Int)) (n25 : ¬ tW T n p = ((25 : Nat) : Int)) (ho : ¬ (so = 3 ∧ (tW T n p = 9 ∨ tW T n p = 5))) : am_E (d + 6) 270 2 [(0, .ref 64), (1, .int (am_i 1))] [] (I, J, R, 138) = am_E (d + 6) 270 186 [(0, .ref 64)] [] (atP T n p I, J, R, 138) := by
  have ha := yS_a h
  obtain ⟨hT, hR, hS, hp, hl, hnb, hb⟩ := h
  have h5 := hR.2.1
  have lk := fun d => e_look (d := d) (J := J) hm hT hp hR
  have tb := tC_b (T := T) (n := n) (p := p) (fun k hk => (hT.2.1 k hk).1)
  have qn : ¬ tC T n p = 40 := fun c => h40 ((tC_S (T := T) (n := n) (p := p) (c := 40) (by decide) (by decide)).mp c)
  have wq := fun d => (e_wordOf (d := d) (J := J) hm ha.1 hp ha.2.1 (so := so) ha.2.2.1.1).1
  have eo : ofI so (tW T n p) = -1 := by
    unfold ofI
    rw [if_neg (fun c => ho ⟨c.1, Or.inl c.2⟩), if_neg (fun c => ho ⟨c.1, Or.inr c.2⟩)]
  rw [atP_a, eo] at wq
  have i24 := (ih_a (J := J) hm hT hp hR (q := 121) (w := 24) (by decide) (by decide)).2
  have i25 := (ih_a (J := J) hm hT hp hR (q := 122) (w := 25) (by decide) (by decide)).2
  rw [sg_X12_qPartTold_2]
  simp (disch := first | assumption | omega) only [rM hm, ly_csm, ly_cam, ly_cf, ly_kd, ly_ln, ↓Bool.cond_decide, cond_true, cond_false, ↓bI_p, ↓bV_p, ↓bL_p, bIJ_s, bVJ_s, bLJ_s, ↓am_let_s, Nat.blt, Nat.ble, Bool.and_true, Bool.true_and, Bool.and_self, Int.cast_ofNat_Int, am_i_add, am_i_sub, am_i_mul, am_ok_i, am_i_cl, n_lt, n_le, n_eq, n_lt0, n_le0, n_0lt, n_0le, n_eq0, ne_eq, ↓reduceIte, not_true_eq_false, not_false_eq_true, and_true, true_and, and_false, false_and, eq_T, eq_F, lt_T, lt_F, le_T, le_F, qn_T, qn_F, and_F, b01_T, b01_F, e_isIn, Int32.toInt_toInt64, am_i_toInt, am_l_toInt, Int.toNat_natCast, Int.reduceToNat, Int.reduceAdd, Int.reduceSub, Int.reduceMul, Int.reduceNeg, Nat.reduceAdd, Nat.reduceMul, Nat.add_zero, Nat.mul_zero, Nat.zero_add, am_zb0, am_zb1, h5, lk, wq, i24, i25, b01_f n24, b01_f n25, sg_X12_qPartTold_183, p2_0]
theorem e_pW (hm : st_Rm R) (h : yS T n so b z p o W C I) (hv : vlB so (tW T n p) = true) : ∃ I', am_E (d + 6) 270 186 [(0, .ref 64)] [] (I, J, R, 138) = some (none, (I', J, R, 138)) ∧ yS T n so b z (tE T n p) (enB b W (C ++ [encM (1, (tW T n p).toNat)]) o).2.2 (enB b W (C ++ [encM (1, (tW T n p).toNat)]) o).1 (enB b W (C ++ [encM (1, (tW T n p).toNat)]) o).2.1 I' ∧ yN I I' := by
  obtain ⟨v1, v2, v3, v4⟩ := vl_i hv
  have ha := yS_a h
  obtain ⟨hT, hR, hS, hp, hl, hnb, hb⟩ := h
  have h5 := hR.2.1
  have wq := fun d => (e_wordOf (d := d) (J := J) hm hT hp hR (so := so) hS.1).2
  have ep : paI so (tW T n p) = qwI (tW T n p) := if_pos hv
  rw [ep] at wq
  have k1 : tK T n p = 1 := by
    by_cases c : tK T n p = 1
    · exact c
    · unfold tW at v3; rw [if_neg c] at v3; omega
  have tE' : p < tE T n p ∧ tE T n p ≤ n := tE_s hp (by omega)
  obtain ⟨I1, s1, s2, s3⟩ := e_askW (d := d) (J := J) hm ha.1 hp ha.2.1 (k := qwI (tW T n p)) rfl v1
  have y1 := yS_m ha s2 s3 (by omega) tE'.2
  rw [v4]
  obtain ⟨I2, I3, c1, c2, c3, c4⟩ := e_pEnd (J := J) (c := 40 + qwI (tW T n p)) hm y1 (by omega)
  refine ⟨I3, ?_, c3, yN_t yN_a (yN_t (yN_m s3) c4)⟩
  generalize qwI (tW T n p) = k at *
  rw [sg_X12_qPartTold_186]
  simp (disch := first | assumption | omega) only [rM hm, ly_csm, ly_cam, ly_cf, ly_kd, ly_ln, ↓Bool.cond_decide, cond_true, cond_false, ↓bI_p, ↓bV_p, ↓bL_p, bIJ_s, bVJ_s, bLJ_s, ↓am_let_s, Nat.blt, Nat.ble, Bool.and_true, Bool.true_and, Bool.and_self, Int.cast_ofNat_Int, am_i_add, am_i_sub, am_i_mul, am_ok_i, am_i_cl, n_lt, n_le, n_eq, n_lt0, n_le0, n_0lt, n_0le, n_eq0, ne_eq, ↓reduceIte, not_true_eq_false, not_false_eq_true, and_true, true_and, and_false, false_and, eq_T, eq_F, lt_T, lt_F, le_T, le_F, qn_T, qn_F, and_F, b01_T, b01_F, e_isIn, Int32.toInt_toInt64, am_i_toInt, am_l_toInt, Int.toNat_natCast, Int.reduceToNat, Int.reduceAdd, Int.reduceSub, Int.reduceMul, Int.reduceNeg, Nat.reduceAdd, Nat.reduceMul, Nat.add_zero, Nat.mul_zero, Nat.zero_add, am_zb0, am_zb1, h5, wq, s1, sg_X12_qPartTold_212, c1, c2]
theorem aN_e {lo hi : Nat} : (aN T n p lo hi).1 < 9 := by
  unfold aN
  repeat' split
  all_goals (dsimp only; omega)
theorem e_pN (hm : st_Rm R) (h : yS T n so b z p o W C I) (hv : ¬ vlB so (tW T n p) = true) : ∃ I', am_E (d + 6) 270 186 [(0, .ref 64)] [] (I, J, R, 138) = some (none, (I', J, R, 138)) ∧ ((aN T n p 0 9999).1 = 0 → yS T n so b z (aN T n p 0 9999).2 (enB b W (C ++ [encM (0, tV T n p)]) o).2.2 (enB b W (C ++ [encM (0, tV T n p)]) o).1 (enB b W (C ++ [encM (0, tV T n p)]) o).2.1 I') ∧ ((aN T n p 0 9999).1 ≠ 0 → yE T n so b z (aN T n p 0 9999).1 (aN T n p 0 9999).2 I') ∧ yN I I' := by
  have ha := yS_a h
  obtain ⟨hT, hR, hS, hp, hl, hnb, hb⟩ := h
  have h5 := hR.2.1
  have n16 := hT.1
  have wq := fun d => (e_wordOf (d := d) (J := J) hm hT hp hR (so := so) hS.1).2
  have ep : paI so (tW T n p) = -1 := if_neg hv
  rw [ep] at wq
  obtain ⟨I1, s1, s2, -, s3⟩ := m_number (d := d + 2) (J := J) hm ha.1 hp ha.2.1 (lo := 0) (hi := 9999) (by omega) (by omega)
  have s1' : am_E (d + 5) 176 0 [(0, .ref 64), (1, .int (am_i 0)), (2, .int (am_i 9999))] [] (atP T n p I, J, R, 138) = some (some (.int (am_i (if tK T n p = 2 ∧ tN T n p ≤ 4 then tV T n p else 0 : Nat))), (I1, J, R, 138)) := s1
  by_cases r0 : (aN T n p 0 9999).1 = 0
  · have hk : tK T n p = 2 ∧ tN T n p ≤ 4 ∧ (aN T n p 0 9999).2 = tE T n p := by
      unfold aN at r0 ⊢
      by_cases c : tK T n p = 2
      · rw [if_pos c] at r0 ⊢
        by_cases c4 : 4 < tN T n p
        · rw [if_pos c4] at r0; exact absurd (show (1 : Nat) = 0 from r0) (by decide)
        · rw [if_neg c4] at r0 ⊢
          by_cases c5 : tV T n p < 0 ∨ 9999 < tV T n p
          · rw [if_pos c5] at r0; exact absurd (show (2 : Nat) = 0 from r0) (by decide)
          · rw [if_neg c5]; exact ⟨c, by omega, rfl⟩
      · rw [if_neg c] at r0; exact absurd (show (1 : Nat) = 0 from r0) (by decide)
    have tE' : p < tE T n p ∧ tE T n p ≤ n := tE_s hp (by omega)
    have m1 := s2.1 r0
    rw [hk.2.2] at m1 ⊢
    have y1 := yS_m ha m1 s3 (by omega) tE'.2
    rw [if_pos ⟨hk.1, hk.2.1⟩] at s1'
    have en : encM (0, tV T n p) = 1000 + (tV T n p : Int) := rfl
    rw [en]
    obtain ⟨I2, I3, c1, c2, c3, c4⟩ := e_pEnd (J := J) (c := 1000 + (tV T n p : Int)) hm y1 (by omega)
    refine ⟨I3, ?_, fun _ => c3, fun c => absurd r0 c, yN_t yN_a (yN_t (yN_m s3) c4)⟩
    rw [sg_X12_qPartTold_186]
    simp (disch := first | assumption | omega) only [rM hm, ly_csm, ly_cam, ly_cf, ly_kd, ly_ln, ↓Bool.cond_decide, cond_true, cond_false, ↓bI_p, ↓bV_p, ↓bL_p, bIJ_s, bVJ_s, bLJ_s, ↓am_let_s, Nat.blt, Nat.ble, Bool.and_true, Bool.true_and, Bool.and_self, Int.cast_ofNat_Int, am_i_add, am_i_sub, am_i_mul, am_ok_i, am_i_cl, n_lt, n_le, n_eq, n_lt0, n_le0, n_0lt, n_0le, n_eq0, ne_eq, ↓reduceIte, not_true_eq_false, not_false_eq_true, and_true, true_and, and_false, false_and, eq_T, eq_F, lt_T, lt_F, le_T, le_F, qn_T, qn_F, and_F, b01_T, b01_F, e_isIn, Int32.toInt_toInt64, am_i_toInt, am_l_toInt, Int.toNat_natCast, Int.reduceToNat, Int.reduceAdd, Int.reduceSub, Int.reduceMul, Int.reduceNeg, Nat.reduceAdd, Nat.reduceMul, Nat.add_zero, Nat.mul_zero, Nat.zero_add, am_zb0, am_zb1, h5, wq, sg_X12_qPartTold_212, s1', c1, c2]
  · have hs1 := sS_m ha.2.2.1 s3
    generalize (if tK T n p = 2 ∧ tN T n p ≤ 4 then tV T n p else 0) = v at s1'
    obtain ⟨I2, a1, a2, a3⟩ := e_qCode (J := J) (c := 1000 + (v : Int)) hm hs1 (by omega)
    have lc : (C ++ [1000 + (v : Int)]).length = C.length + 1 := by rw [List.length_append]; rfl
    have r5 := s2.2 r0
    have y1 : yE T n so b z (aN T n p 0 9999).1 (aN T n p 0 9999).2 I2 := ⟨txM_y (txM_y ha.1 (yN_m s3)) (yN_q a3), r0, aN_e, by rw [a3 _ _ (by unfold sqC; omega)]; exact r5.1, by rw [a3 _ _ (by unfold sqC; omega)]; exact r5.2, o, W, _, a2, by omega⟩
    have ee := fun d => e_enE (d := d) (J := J) (R := R) hm y1
    refine ⟨I2, ?_, fun c => absurd c r0, fun _ => y1, yN_t yN_a (yN_t (yN_m s3) (yN_q a3))⟩
    rw [sg_X12_qPartTold_186]
    simp (disch := first | assumption | omega) only [rM hm, ly_csm, ly_cam, ly_cf, ly_kd, ly_ln, ↓Bool.cond_decide, cond_true, cond_false, ↓bI_p, ↓bV_p, ↓bL_p, bIJ_s, bVJ_s, bLJ_s, ↓am_let_s, Nat.blt, Nat.ble, Bool.and_true, Bool.true_and, Bool.and_self, Int.cast_ofNat_Int, am_i_add, am_i_sub, am_i_mul, am_ok_i, am_i_cl, n_lt, n_le, n_eq, n_lt0, n_le0, n_0lt, n_0le, n_eq0, ne_eq, ↓reduceIte, not_true_eq_false, not_false_eq_true, and_true, true_and, and_false, false_and, eq_T, eq_F, lt_T, lt_F, le_T, le_F, qn_T, qn_F, and_F, b01_T, b01_F, e_isIn, Int32.toInt_toInt64, am_i_toInt, am_l_toInt, Int.toNat_natCast, Int.reduceToNat, Int.reduceAdd, Int.reduceSub, Int.reduceMul, Int.reduceNeg, Nat.reduceAdd, Nat.reduceMul, Nat.add_zero, Nat.mul_zero, Nat.zero_add, am_zb0, am_zb1, h5, wq, sg_X12_qPartTold_212, s1', a1, ee]
end MY
