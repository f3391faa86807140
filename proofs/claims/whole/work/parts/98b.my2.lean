/-! ===== the yard goes on ===== -/
section MY2
variable {d : Nat} {J : tJ} {R : tR} {T : Nat → Nat} {n so b z p o : Nat} {W : List Nat} {C : List Int} {I I' I'' : tI}
theorem brF_o {w : Nat} (hw : 20 ≤ w ∧ w ≤ 24) (hb : b ≤ W.length) : ∀ {ops : List Nat}, (∀ x ∈ ops, x < 20) → brF b (ops ++ w :: W) = (w : Int)
  | [], _ => by
    show (if W.length < b then -1 else if 20 ≤ w ∧ w ≤ 24 then (w : Int) else brF b W) = _
    rw [if_neg (by omega), if_pos hw]
  | x :: ops, h => by
    have hx := h x List.mem_cons_self
    have ih := brF_o hw hb (ops := ops) (fun y hy => h y (List.mem_cons_of_mem _ hy))
    have ll : (ops ++ w :: W).length = ops.length + (W.length + 1) := List.length_append
    show (if (ops ++ w :: W).length < b then -1 else if 20 ≤ x ∧ x ≤ 24 then (x : Int) else brF b (ops ++ w :: W)) = _
    rw [if_neg (by omega), if_neg (by omega), ih]
theorem brF_e : ∀ {W : List Nat}, W.length ≤ b → brF b W = -1
  | [], _ => rfl
  | w :: W, h => by
    have h' : W.length + 1 ≤ b := h
    show (if W.length < b then -1 else _) = (-1 : Int)
    rw [if_pos (by omega)]
theorem brF_n (hb : b = W.length) : ∀ {ops : List Nat}, (∀ x ∈ ops, x < 20) → brF b (ops ++ W) = -1
  | [], _ => brF_e (by rw [List.nil_append]; omega)
  | x :: ops, h => by
    have hx := h x List.mem_cons_self
    have ih := brF_n hb (ops := ops) (fun y hy => h y (List.mem_cons_of_mem _ hy))
    have ll : (ops ++ W).length = ops.length + W.length := List.length_append
    show (if (ops ++ W).length < b then -1 else if 20 ≤ x ∧ x ≤ 24 then (x : Int) else brF b (ops ++ W)) = _
    rw [if_neg (by omega), if_neg (by omega), ih]
theorem brF_b : ∀ {W : List Nat}, brF b W = -1 ∨ ∃ w : Nat, brF b W = w ∧ 20 ≤ w ∧ w ≤ 24
  | [] => Or.inl rfl
  | w :: W => by
    have e : brF b (w :: W) = (if W.length < b then -1 else if 20 ≤ w ∧ w ≤ 24 then (w : Int) else brF b W) := rfl
    by_cases q : W.length < b
    · rw [if_pos q] at e; exact Or.inl e
    · rw [if_neg q] at e
      by_cases q2 : 20 ≤ w ∧ w ≤ 24
      · rw [if_pos q2] at e; exact Or.inr ⟨w, e, q2⟩
      · rw [if_neg q2] at e; rw [e]; exact brF_b
theorem e_g122 (hm : st_Rm R) (h : yS T n so b z p o W C I) (hn : ¬ (tSg T n p = (41 : Nat) ∧ (brF b W = 20 ∨ brF b W = 23 ∨ brF b W = 24))) : am_E (d + 3) 271 0 [(0, .ref 64)] [] (I, J, R, 138) = am_E (d + 3) 271 122 [(0, .ref 64)] [] (atP T n p I, J, R, 138) := by
  have ha := yS_a h
  obtain ⟨hT, hR, hS, hp, hl, hnb, hb⟩ := h
  have h5 := hR.2.1
  have lk := fun d => e_look (d := d) (J := J) hm hT hp hR
  have tb := tC_b (T := T) (n := n) (p := p) (fun k hk => (hT.2.1 k hk).1)
  have br := fun d => e_qBracket (d := d) (J := J) hm ha.2.2.1
  have bb := brF_b (b := b) (W := W)
  rw [sg_X12_qGoesOn_0]
  by_cases g : tSg T n p = (41 : Nat)
  · have qc : tC T n p = 41 := (tC_S (T := T) (n := n) (p := p) (c := 41) (by decide) (by decide)).mpr g
    have k1 : ¬ brF b W = 20 := fun c => hn ⟨g, Or.inl c⟩
    have k2 : ¬ brF b W = 23 := fun c => hn ⟨g, Or.inr (Or.inl c)⟩
    have k3 : ¬ brF b W = 24 := fun c => hn ⟨g, Or.inr (Or.inr c)⟩
    have b1 : -1 ≤ brF b W ∧ brF b W ≤ 24 := by
      rcases bb with c | ⟨w, c, c1, c2⟩
      · omega
      · omega
    generalize brF b W = v at *
    simp (disch := first | assumption | omega) only [rM hm, ly_csm, ly_cam, ly_cf, ly_kd, ly_ln, ↓Bool.cond_decide, cond_true, cond_false, ↓bI_p, ↓bV_p, ↓bL_p, bIJ_s, bVJ_s, bLJ_s, ↓am_let_s, Nat.blt, Nat.ble, Bool.and_true, Bool.true_and, Bool.and_self, Int.cast_ofNat_Int, am_i_add, am_i_sub, am_i_mul, am_ok_i, am_i_cl, n_lt, n_le, n_eq, n_lt0, n_le0, n_0lt, n_0le, n_eq0, ne_eq, ↓reduceIte, not_true_eq_false, not_false_eq_true, and_true, true_and, and_false, false_and, eq_T, eq_F, lt_T, lt_F, le_T, le_F, qn_T, qn_F, and_F, b01_T, b01_F, e_isIn, Int32.toInt_toInt64, am_i_toInt, am_l_toInt, Int.toNat_natCast, Int.reduceToNat, Int.reduceAdd, Int.reduceSub, Int.reduceMul, Int.reduceNeg, Nat.reduceAdd, Nat.reduceMul, Nat.add_zero, Nat.mul_zero, Nat.zero_add, am_zb0, am_zb1, h5, lk, qc, br]
  · have qn : ¬ tC T n p = 41 := fun c => g ((tC_S (T := T) (n := n) (p := p) (c := 41) (by decide) (by decide)).mp c)
    simp (disch := first | assumption | omega) only [rM hm, ly_csm, ly_cam, ly_cf, ly_kd, ly_ln, ↓Bool.cond_decide, cond_true, cond_false, ↓bI_p, ↓bV_p, ↓bL_p, bIJ_s, bVJ_s, bLJ_s, ↓am_let_s, Nat.blt, Nat.ble, Bool.and_true, Bool.true_and, Bool.and_self, Int.cast_ofNat_Int, am_i_add, am_i_sub, am_i_mul, am_ok_i, am_i_cl, n_lt, n_le, n_eq, n_lt0, n_le0, n_0lt, n_0le, n_eq0, ne_eq, ↓reduceIte, not_true_eq_false, not_false_eq_true, and_true, true_and, and_false, false_and, eq_T, eq_F, lt_T, lt_F, le_T, le_F, qn_T, qn_F, and_F, b01_T, b01_F, e_isIn, Int32.toInt_toInt64, am_i_toInt, am_l_toInt, Int.toNat_natCast, Int.reduceToNat, Int.reduceAdd, Int.reduceSub, Int.reduceMul, Int.reduceNeg, Nat.reduceAdd, Nat.reduceMul, Nat.add_zero, Nat.mul_zero, Nat.zero_add, am_zb0, am_zb1, h5, lk]
theorem e_g43 (hm : st_Rm R) (h : yS T n so b z p o W C I) (g : tSg T n p = (41 : Nat)) (hn : brF b W = 20 ∨ brF b W = 23 ∨ brF b W = 24) : am_E (d + 3) 271 0 [(0, .ref 64)] [] (I, J, R, 138) = am_E (d + 3) 271 43 [(0, .ref 64)] [] (atP T n p I, J, R, 138) := by
  have ha := yS_a h
  obtain ⟨hT, hR, hS, hp, hl, hnb, hb⟩ := h
  have h5 := hR.2.1
  have lk := fun d => e_look (d := d) (J := J) hm hT hp hR
  have br := fun d => e_qBracket (d := d) (J := J) hm ha.2.2.1
  have qc : tC T n p = 41 := (tC_S (T := T) (n := n) (p := p) (c := 41) (by decide) (by decide)).mpr g
  rw [sg_X12_qGoesOn_0]
  rcases hn with c | c | c
  · rw [c] at br
    simp (disch := first | assumption | omega) only [rM hm, ly_csm, ly_cam, ly_cf, ly_kd, ly_ln, ↓Bool.cond_decide, cond_true, cond_false, ↓bI_p, ↓bV_p, ↓bL_p, bIJ_s, bVJ_s, bLJ_s, ↓am_let_s, Nat.blt, Nat.ble, Bool.and_true, Bool.true_and, Bool.and_self, Int.cast_ofNat_Int, am_i_add, am_i_sub, am_i_mul, am_ok_i, am_i_cl, n_lt, n_le, n_eq, n_lt0, n_le0, n_0lt, n_0le, n_eq0, ne_eq, ↓reduceIte, not_true_eq_false, not_false_eq_true, and_true, true_and, and_false, false_and, eq_T, eq_F, lt_T, lt_F, le_T, le_F, qn_T, qn_F, and_F, b01_T, b01_F, e_isIn, Int32.toInt_toInt64, am_i_toInt, am_l_toInt, Int.toNat_natCast, Int.reduceToNat, Int.reduceAdd, Int.reduceSub, Int.reduceMul, Int.reduceNeg, Nat.reduceAdd, Nat.reduceMul, Nat.add_zero, Nat.mul_zero, Nat.zero_add, am_zb0, am_zb1, h5, lk, qc, br]
  · rw [c] at br
    simp (disch := first | assumption | omega) only [rM hm, ly_csm, ly_cam, ly_cf, ly_kd, ly_ln, ↓Bool.cond_decide, cond_true, cond_false, ↓bI_p, ↓bV_p, ↓bL_p, bIJ_s, bVJ_s, bLJ_s, ↓am_let_s, Nat.blt, Nat.ble, Bool.and_true, Bool.true_and, Bool.and_self, Int.cast_ofNat_Int, am_i_add, am_i_sub, am_i_mul, am_ok_i, am_i_cl, n_lt, n_le, n_eq, n_lt0, n_le0, n_0lt, n_0le, n_eq0, ne_eq, ↓reduceIte, not_true_eq_false, not_false_eq_true, and_true, true_and, and_false, false_and, eq_T, eq_F, lt_T, lt_F, le_T, le_F, qn_T, qn_F, and_F, b01_T, b01_F, e_isIn, Int32.toInt_toInt64, am_i_toInt, am_l_toInt, Int.toNat_natCast, Int.reduceToNat, Int.reduceAdd, Int.reduceSub, Int.reduceMul, Int.reduceNeg, Nat.reduceAdd, Nat.reduceMul, Nat.add_zero, Nat.mul_zero, Nat.zero_add, am_zb0, am_zb1, h5, lk, qc, br]
  · rw [c] at br
    simp (disch := first | assumption | omega) only [rM hm, ly_csm, ly_cam, ly_cf, ly_kd, ly_ln, ↓Bool.cond_decide, cond_true, cond_false, ↓bI_p, ↓bV_p, ↓bL_p, bIJ_s, bVJ_s, bLJ_s, ↓am_let_s, Nat.blt, Nat.ble, Bool.and_true, Bool.true_and, Bool.and_self, Int.cast_ofNat_Int, am_i_add, am_i_sub, am_i_mul, am_ok_i, am_i_cl, n_lt, n_le, n_eq, n_lt0, n_le0, n_0lt, n_0le, n_eq0, ne_eq, ↓reduceIte, not_true_eq_false, not_false_eq_true, and_true, true_and, and_false, false_and, eq_T, eq_F, lt_T, lt_F, le_T, le_F, qn_T, qn_F, and_F, b01_T, b01_F, e_isIn, Int32.toInt_toInt64, am_i_toInt, am_l_toInt, Int.toNat_natCast, Int.reduceToNat, Int.reduceAdd, Int.reduceSub, Int.reduceMul, Int.reduceNeg, Nat.reduceAdd, Nat.reduceMul, Nat.add_zero, Nat.mul_zero, Nat.zero_add, am_zb0, am_zb1, h5, lk, qc, br]
/-- a sign that isn't here; one that is -/
theorem ts_f (hm : st_Rm R) (h : yS T n so b z p o W C I) {c : Nat} (hc : c < 256) (hl : ¬ lB c = true) (hd : ¬ dB c = true) (g : ¬ tSg T n p = c) : ∀ d, am_E (d + 2) 174 0 [(0, .ref 64), (1, .int (am_i c))] [] (atP T n p I, J, R, 138) = some (some (.int (am_i 0)), (atP T n p I, J, R, 138)) := fun d => by
  have ha := yS_a h
  obtain ⟨I1, t1, -, t3, -⟩ := m_takesSign (d := d) (J := J) hm ha.1 h.2.2.2.1 ha.2.1 hc hl hd
  have e1 := t3 g
  rw [atP_a] at e1
  subst e1
  rw [b01_f g] at t1
  exact t1
theorem ts_t (hm : st_Rm R) (h : yS T n so b z p o W C I) {c : Nat} (hc : c < 256) (hl : ¬ lB c = true) (hd : ¬ dB c = true) (g : tSg T n p = c) : (∀ d, am_E (d + 2) 174 0 [(0, .ref 64), (1, .int (am_i c))] [] (atP T n p I, J, R, 138) = some (some (.int (am_i 1)), (am_up (atP T n p I) 64 2 (am_i (tE T n p)), J, R, 138))) ∧ yS T n so b z (tE T n p) o W C (am_up (atP T n p I) 64 2 (am_i (tE T n p))) ∧ yN I (am_up (atP T n p I) 64 2 (am_i (tE T n p))) ∧ tE T n p = tAt T n p + 1 ∧ I 65 (tAt T n p) = am_i c := by
  have ha := yS_a h
  have hp := h.2.2.2.1
  have tb := tE_sg g hp
  have fr : ∀ q k, ¬ (q = 64 ∧ k = 2) → am_up (atP T n p I) 64 2 (am_i (tE T n p)) q k = atP T n p I q k := fun q k e => am_up_o e
  have fr' : ∀ q k, ¬ mlC q k → am_up (atP T n p I) 64 2 (am_i (tE T n p)) q k = atP T n p I q k := fun q k e => am_up_o (by unfold mlC at e; omega)
  have k3 := tSg_3 g
  have eE := tE_3 k3
  have n16 := h.1.1
  refine ⟨fun d => ?_, yS_m ha (sg_n g ha.2.1 hp am_up_e fr) fr' (by omega) tb.2, yN_t yN_a (yN_m fr'), eE, ?_⟩
  · have lk := fun d => e_look (d := d) (J := J) hm ha.1 hp ha.2.1
    rw [atP_a] at lk
    have h5 := ha.2.1.2.1
    have a2 : atP T n p I 64 2 = am_i (tAt T n p) := atP_2
    have qc : tC T n p = c := (tC_S hl hd).mpr g
    rw [sg_X12_takesSign_0, eE]
    simp (disch := first | assumption | omega) only [↓Bool.cond_decide, cond_true, cond_false, ↓am_let_s, ↓bI_p, bIJ_s, ↓bV_p, bVJ_s, ↓bL_p, bLJ_s, ly_cf, Bool.and_self, Bool.and_true, h5, lk, qc, am_i_add, am_i_sub, am_i_mul, am_ok_i, am_i_cl, n_lt, n_le, n_eq, n_lt0, n_le0, n_0lt, n_0le, n_eq0, ne_eq, ↓reduceIte, not_true_eq_false, not_false_eq_true, and_true, true_and, and_false, false_and, eq_T, eq_F, lt_T, lt_F, le_T, le_F, qn_T, qn_F, and_F, b01_T, b01_F, e_isIn, Int32.toInt_toInt64, am_i_toInt, am_l_toInt, Int.toNat_natCast, Int.reduceToNat, Int.reduceAdd, Int.reduceSub, Int.reduceMul, Int.reduceNeg, Nat.reduceAdd, Nat.reduceMul, Nat.add_zero, Nat.mul_zero, Nat.zero_add, am_zb0, am_zb1, a2, am_i_s]
  · unfold tSg at g
    rw [if_pos k3] at g
    have lt : tAt T n p < n := (tK_3.mp k3).1
    rw [(h.1.2.1 _ lt).2, g]
/-- operators that bind as strongly are dropped, the new one waits -/
theorem e_d34 (hm : st_Rm R) {v : Nat} (hv : v ≤ 4) (hW : ∀ w, W.head? = some w → w ≠ 3 ∧ w ≠ 4) : ∀ (ops : List Nat) (C : List Int) (I : tI), (∀ w ∈ ops, w = 3 ∨ w = 4) → yS T n so b z p o (ops ++ W) C I → b ≤ W.length → C.length + (ops ++ W).length + 2 + z ≤ p → ∃ I', (∀ d, am_E (d + 3) 271 162 [(0, .ref 64), (1, .int (am_i v))] [] (I, J, R, 138) = some (some (.int (am_i 1)), (I', J, R, 138))) ∧ yS T n so b z p o (v :: W) (C ++ List.map (fun w : Nat => (w : Int)) ops) I' ∧ yN I I'
  | [], C, I, _, h, hb, hl => by
    have h' : yS T n so b z p o W C I := h
    have h0 : yS T n so b z p o W C I := h
    have hl' : C.length + W.length + 2 + z ≤ p := hl
    obtain ⟨hT, hR, hS, hp, hl0, hnb, hb0⟩ := h'
    have n16 := hT.1
    have f3 : ¬ W.head? = some 3 := fun c => (hW 3 c).1 rfl
    have f4 : ¬ W.head? = some 4 := fun c => (hW 4 c).2 rfl
    have o3 : ∀ d, am_E (d + 1) 261 0 [(0, .ref 64), (1, .int (am_i 3))] [] (I, J, R, 138) = some (some (.int (am_i 0)), (I, J, R, 138)) := fun d => by
      have := e_qIsOn (d := d) (J := J) hm hS (v := 3) (by omega)
      rw [b01_f f3] at this
      exact this
    have o4 : ∀ d, am_E (d + 1) 261 0 [(0, .ref 64), (1, .int (am_i 4))] [] (I, J, R, 138) = some (some (.int (am_i 0)), (I, J, R, 138)) := fun d => by
      have := e_qIsOn (d := d) (J := J) hm hS (v := 4) (by omega)
      rw [b01_f f4] at this
      exact this
    have ps := push_s (w := v) hS (by omega) (by omega)
    have fr : ∀ q k, ¬ sqC q k → am_up (am_up I 135 W.length (am_i v)) 64 97 (am_i (W.length + 1 : Nat)) q k = I q k := fun q k e => by unfold sqC at e; rw [am_up_o (by omega), am_up_o (by omega)]
    have h3 := hS.2.2.1
    have u7 : am_up I 135 W.length (am_i v) 64 97 = am_i W.length := by rw [am_up_o (by omega)]; exact h3
    refine ⟨_, fun d => ?_, by rw [List.map_nil, List.append_nil]; exact yS_q h0 ps fr (by show C.length + (W.length + 1) + 1 + z ≤ p; omega) (by rw [nbW_c, if_neg (by omega), hnb]; omega) (by show b ≤ W.length + 1; omega), yN_q fr⟩
    rw [sg_X12_qGoesOn_162]
    simp (disch := first | assumption | omega) only [rM hm, ly_csm, ly_cam, ly_cf, ly_kd, ly_ln, ↓Bool.cond_decide, cond_true, cond_false, ↓bI_p, ↓bV_p, ↓bL_p, bIJ_s, bVJ_s, bLJ_s, ↓am_let_s, Nat.blt, Nat.ble, Bool.and_true, Bool.true_and, Bool.and_self, Int.cast_ofNat_Int, am_i_add, am_i_sub, am_i_mul, am_ok_i, am_i_cl, n_lt, n_le, n_eq, n_lt0, n_le0, n_0lt, n_0le, n_eq0, ne_eq, ↓reduceIte, not_true_eq_false, not_false_eq_true, and_true, true_and, and_false, false_and, eq_T, eq_F, lt_T, lt_F, le_T, le_F, qn_T, qn_F, and_F, b01_T, b01_F, e_isIn, Int32.toInt_toInt64, am_i_toInt, am_l_toInt, Int.toNat_natCast, Int.reduceToNat, Int.reduceAdd, Int.reduceSub, Int.reduceMul, Int.reduceNeg, Nat.reduceAdd, Nat.reduceMul, Nat.add_zero, Nat.mul_zero, Nat.zero_add, am_zb0, am_zb1, o3, o4, h3, u7, am_i_s]
  | w :: ops, C, I, hops, h, hb, hl => by
    have w34 := hops w List.mem_cons_self
    have h' : yS T n so b z p o (w :: (ops ++ W)) C I := h
    have ll : (ops ++ W).length = ops.length + W.length := List.length_append
    have hl' : C.length + ((ops ++ W).length + 1) + 2 + z ≤ p := hl
    have lc : (C ++ [(w : Int)]).length = C.length + 1 := by rw [List.length_append]; rfl
    have hnb := h'.2.2.2.2.2.1
    rw [nbW_c, if_neg (by omega)] at hnb
    obtain ⟨I1, a1, a2, a3⟩ := e_qDrops (J := J) hm h'.2.2.1
    have y1 : yS T n so b z p o (ops ++ W) (C ++ [(w : Int)]) I1 := yS_q h' a2 a3 (by omega) (by omega) (by omega)
    obtain ⟨I2, b1, b2, b3⟩ := e_d34 hm hv hW ops (C ++ [(w : Int)]) I1 (fun x hx => hops x (List.mem_cons_of_mem _ hx)) y1 hb (by omega)
    refine ⟨I2, fun d => ?_, by rw [List.map_cons, List.append_cons]; exact b2, yN_t (yN_q a3) b3⟩
    rw [← b1 d, sg_X12_qGoesOn_162]
    have o3 := fun d => e_qIsOn (d := d) (J := J) hm h'.2.2.1 (v := 3) (by omega)
    have o4 := fun d => e_qIsOn (d := d) (J := J) hm h'.2.2.1 (v := 4) (by omega)
    rcases w34 with rfl | rfl
    · have o3' : ∀ d, am_E (d + 1) 261 0 [(0, .ref 64), (1, .int (am_i 3))] [] (I, J, R, 138) = some (some (.int (am_i 1)), (I, J, R, 138)) := fun d => by
        have := o3 d
        rw [b01_t (show (3 :: (ops ++ W)).head? = some 3 from rfl)] at this
        exact this
      simp (disch := first | assumption | omega) only [rM hm, ly_csm, ly_cam, ly_cf, ly_kd, ly_ln, ↓Bool.cond_decide, cond_true, cond_false, ↓bI_p, ↓bV_p, ↓bL_p, bIJ_s, bVJ_s, bLJ_s, ↓am_let_s, Nat.blt, Nat.ble, Bool.and_true, Bool.true_and, Bool.and_self, Int.cast_ofNat_Int, am_i_add, am_i_sub, am_i_mul, am_ok_i, am_i_cl, n_lt, n_le, n_eq, n_lt0, n_le0, n_0lt, n_0le, n_eq0, ne_eq, ↓reduceIte, not_true_eq_false, not_false_eq_true, and_true, true_and, and_false, false_and, eq_T, eq_F, lt_T, lt_F, le_T, le_F, qn_T, qn_F, and_F, b01_T, b01_F, e_isIn, Int32.toInt_toInt64, am_i_toInt, am_l_toInt, Int.toNat_natCast, Int.reduceToNat, Int.reduceAdd, Int.reduceSub, Int.reduceMul, Int.reduceNeg, Nat.reduceAdd, Nat.reduceMul, Nat.add_zero, Nat.mul_zero, Nat.zero_add, am_zb0, am_zb1, o3', a1, sg_X12_qGoesOn_178]
    · have o3' : ∀ d, am_E (d + 1) 261 0 [(0, .ref 64), (1, .int (am_i 3))] [] (I, J, R, 138) = some (some (.int (am_i 0)), (I, J, R, 138)) := fun d => by
        have := o3 d
        rw [b01_f (show ¬ (4 :: (ops ++ W)).head? = some 3 from fun c => absurd (Option.some.inj c) (by decide))] at this
        exact this
      have o4' : ∀ d, am_E (d + 1) 261 0 [(0, .ref 64), (1, .int (am_i 4))] [] (I, J, R, 138) = some (some (.int (am_i 1)), (I, J, R, 138)) := fun d => by
        have := o4 d
        rw [b01_t (show (4 :: (ops ++ W)).head? = some 4 from rfl)] at this
        exact this
      simp (disch := first | assumption | omega) only [rM hm, ly_csm, ly_cam, ly_cf, ly_kd, ly_ln, ↓Bool.cond_decide, cond_true, cond_false, ↓bI_p, ↓bV_p, ↓bL_p, bIJ_s, bVJ_s, bLJ_s, ↓am_let_s, Nat.blt, Nat.ble, Bool.and_true, Bool.true_and, Bool.and_self, Int.cast_ofNat_Int, am_i_add, am_i_sub, am_i_mul, am_ok_i, am_i_cl, n_lt, n_le, n_eq, n_lt0, n_le0, n_0lt, n_0le, n_eq0, ne_eq, ↓reduceIte, not_true_eq_false, not_false_eq_true, and_true, true_and, and_false, false_and, eq_T, eq_F, lt_T, lt_F, le_T, le_F, qn_T, qn_F, and_F, b01_T, b01_F, e_isIn, Int32.toInt_toInt64, am_i_toInt, am_l_toInt, Int.toNat_natCast, Int.reduceToNat, Int.reduceAdd, Int.reduceSub, Int.reduceMul, Int.reduceNeg, Nat.reduceAdd, Nat.reduceMul, Nat.add_zero, Nat.mul_zero, Nat.zero_add, am_zb0, am_zb1, o3', o4', a1, sg_X12_qGoesOn_178]
theorem on_t (hm : st_Rm R) {v : Nat} (h : sS so o b (v :: W) C I) (hv : v ≤ 61) : ∀ d, am_E (d + 1) 261 0 [(0, .ref 64), (1, .int (am_i v))] [] (I, J, R, 138) = some (some (.int (am_i 1)), (I, J, R, 138)) := fun d => by
  have := e_qIsOn (d := d) (J := J) hm h hv
  rw [b01_t (show (v :: W).head? = some v from rfl)] at this
  exact this
theorem on_f (hm : st_Rm R) {v : Nat} (h : sS so o b W C I) (hv : v ≤ 61) (hn : ¬ W.head? = some v) : ∀ d, am_E (d + 1) 261 0 [(0, .ref 64), (1, .int (am_i v))] [] (I, J, R, 138) = some (some (.int (am_i 0)), (I, J, R, 138)) := fun d => by
  have := e_qIsOn (d := d) (J := J) hm h hv
  rw [b01_f hn] at this
  exact this
theorem hd_n {w v : Nat} {l : List Nat} (h : w ≠ v) : ¬ (w :: l).head? = some v := fun c => h (Option.some.inj c)
theorem e_d14 (hm : st_Rm R) {v : Nat} (hv : v ≤ 4) (hW : ∀ w, W.head? = some w → w ≠ 1 ∧ w ≠ 2 ∧ w ≠ 3 ∧ w ≠ 4) : ∀ (ops : List Nat) (C : List Int) (I : tI), (∀ w ∈ ops, w = 1 ∨ w = 2 ∨ w = 3 ∨ w = 4) → yS T n so b z p o (ops ++ W) C I → b ≤ W.length → C.length + (ops ++ W).length + 2 + z ≤ p → ∃ I', (∀ d, am_E (d + 3) 271 247 [(0, .ref 64), (1, .int (am_i v))] [] (I, J, R, 138) = some (some (.int (am_i 1)), (I', J, R, 138))) ∧ yS T n so b z p o (v :: W) (C ++ List.map (fun w : Nat => (w : Int)) ops) I' ∧ yN I I'
  | [], C, I, _, h, hb, hl => by
    have h' : yS T n so b z p o W C I := h
    have h0 : yS T n so b z p o W C I := h
    have hl' : C.length + W.length + 2 + z ≤ p := hl
    obtain ⟨hT, hR, hS, hp, hl0, hnb, hb0⟩ := h'
    have n16 := hT.1
    have o1 : ∀ d, am_E (d + 1) 261 0 [(0, .ref 64), (1, .int (am_i 1))] [] (I, J, R, 138) = some (some (.int (am_i 0)), (I, J, R, 138)) := on_f (v := 1) hm hS (by omega) (fun c => (hW 1 c).1 rfl)
    have o2 : ∀ d, am_E (d + 1) 261 0 [(0, .ref 64), (1, .int (am_i 2))] [] (I, J, R, 138) = some (some (.int (am_i 0)), (I, J, R, 138)) := on_f (v := 2) hm hS (by omega) (fun c => (hW 2 c).2.1 rfl)
    have o3 : ∀ d, am_E (d + 1) 261 0 [(0, .ref 64), (1, .int (am_i 3))] [] (I, J, R, 138) = some (some (.int (am_i 0)), (I, J, R, 138)) := on_f (v := 3) hm hS (by omega) (fun c => (hW 3 c).2.2.1 rfl)
    have o4 : ∀ d, am_E (d + 1) 261 0 [(0, .ref 64), (1, .int (am_i 4))] [] (I, J, R, 138) = some (some (.int (am_i 0)), (I, J, R, 138)) := on_f (v := 4) hm hS (by omega) (fun c => (hW 4 c).2.2.2 rfl)
    have ps := push_s (w := v) hS (by omega) (by omega)
    have fr : ∀ q k, ¬ sqC q k → am_up (am_up I 135 W.length (am_i v)) 64 97 (am_i (W.length + 1 : Nat)) q k = I q k := fun q k e => by unfold sqC at e; rw [am_up_o (by omega), am_up_o (by omega)]
    have h3 := hS.2.2.1
    have u7 : am_up I 135 W.length (am_i v) 64 97 = am_i W.length := by rw [am_up_o (by omega)]; exact h3
    refine ⟨_, fun d => ?_, by rw [List.map_nil, List.append_nil]; exact yS_q h0 ps fr (by show C.length + (W.length + 1) + 1 + z ≤ p; omega) (by rw [nbW_c, if_neg (by omega), hnb]; omega) (by show b ≤ W.length + 1; omega), yN_q fr⟩
    rw [sg_X12_qGoesOn_247]
    simp (disch := first | assumption | omega) only [rM hm, ly_csm, ly_cam, ly_cf, ly_kd, ly_ln, ↓Bool.cond_decide, cond_true, cond_false, ↓bI_p, ↓bV_p, ↓bL_p, bIJ_s, bVJ_s, bLJ_s, ↓am_let_s, Nat.blt, Nat.ble, Bool.and_true, Bool.true_and, Bool.and_self, Int.cast_ofNat_Int, am_i_add, am_i_sub, am_i_mul, am_ok_i, am_i_cl, n_lt, n_le, n_eq, n_lt0, n_le0, n_0lt, n_0le, n_eq0, ne_eq, ↓reduceIte, not_true_eq_false, not_false_eq_true, and_true, true_and, and_false, false_and, eq_T, eq_F, lt_T, lt_F, le_T, le_F, qn_T, qn_F, and_F, b01_T, b01_F, e_isIn, Int32.toInt_toInt64, am_i_toInt, am_l_toInt, Int.toNat_natCast, Int.reduceToNat, Int.reduceAdd, Int.reduceSub, Int.reduceMul, Int.reduceNeg, Nat.reduceAdd, Nat.reduceMul, Nat.add_zero, Nat.mul_zero, Nat.zero_add, am_zb0, am_zb1, o1, o2, o3, o4, h3, u7, am_i_s]
  | w :: ops, C, I, hops, h, hb, hl => by
    have w14 := hops w List.mem_cons_self
    have h' : yS T n so b z p o (w :: (ops ++ W)) C I := h
    have ll : (ops ++ W).length = ops.length + W.length := List.length_append
    have hl' : C.length + ((ops ++ W).length + 1) + 2 + z ≤ p := hl
    have lc : (C ++ [(w : Int)]).length = C.length + 1 := by rw [List.length_append]; rfl
    have hnb := h'.2.2.2.2.2.1
    rw [nbW_c, if_neg (by omega)] at hnb
    obtain ⟨I1, a1, a2, a3⟩ := e_qDrops (J := J) hm h'.2.2.1
    have y1 : yS T n so b z p o (ops ++ W) (C ++ [(w : Int)]) I1 := yS_q h' a2 a3 (by omega) (by omega) (by omega)
    obtain ⟨I2, b1, b2, b3⟩ := e_d14 hm hv hW ops (C ++ [(w : Int)]) I1 (fun x hx => hops x (List.mem_cons_of_mem _ hx)) y1 hb (by omega)
    refine ⟨I2, fun d => ?_, by rw [List.map_cons, List.append_cons]; exact b2, yN_t (yN_q a3) b3⟩
    rw [← b1 d, sg_X12_qGoesOn_247]
    have hS := h'.2.2.1
    have f := fun (v : Nat) (hv : v ≤ 61) (hn : w ≠ v) => on_f (J := J) (v := v) hm hS hv (hd_n hn)
    have t := on_t (J := J) hm hS (by omega)
    rcases w14 with rfl | rfl | rfl | rfl
    · have f3 : ∀ d, am_E (d + 1) 261 0 [(0, .ref 64), (1, .int (am_i 3))] [] (I, J, R, 138) = some (some (.int (am_i 0)), (I, J, R, 138)) := f 3 (by omega) (by omega)
      have f4 : ∀ d, am_E (d + 1) 261 0 [(0, .ref 64), (1, .int (am_i 4))] [] (I, J, R, 138) = some (some (.int (am_i 0)), (I, J, R, 138)) := f 4 (by omega) (by omega)
      have t1 : ∀ d, am_E (d + 1) 261 0 [(0, .ref 64), (1, .int (am_i 1))] [] (I, J, R, 138) = some (some (.int (am_i 1)), (I, J, R, 138)) := t
      simp (disch := first | assumption | omega) only [rM hm, ly_csm, ly_cam, ly_cf, ly_kd, ly_ln, ↓Bool.cond_decide, cond_true, cond_false, ↓bI_p, ↓bV_p, ↓bL_p, bIJ_s, bVJ_s, bLJ_s, ↓am_let_s, Nat.blt, Nat.ble, Bool.and_true, Bool.true_and, Bool.and_self, Int.cast_ofNat_Int, am_i_add, am_i_sub, am_i_mul, am_ok_i, am_i_cl, n_lt, n_le, n_eq, n_lt0, n_le0, n_0lt, n_0le, n_eq0, ne_eq, ↓reduceIte, not_true_eq_false, not_false_eq_true, and_true, true_and, and_false, false_and, eq_T, eq_F, lt_T, lt_F, le_T, le_F, qn_T, qn_F, and_F, b01_T, b01_F, e_isIn, Int32.toInt_toInt64, am_i_toInt, am_l_toInt, Int.toNat_natCast, Int.reduceToNat, Int.reduceAdd, Int.reduceSub, Int.reduceMul, Int.reduceNeg, Nat.reduceAdd, Nat.reduceMul, Nat.add_zero, Nat.mul_zero, Nat.zero_add, am_zb0, am_zb1, f3, f4, t1, a1, sg_X12_qGoesOn_279]
    · have f3 : ∀ d, am_E (d + 1) 261 0 [(0, .ref 64), (1, .int (am_i 3))] [] (I, J, R, 138) = some (some (.int (am_i 0)), (I, J, R, 138)) := f 3 (by omega) (by omega)
      have f4 : ∀ d, am_E (d + 1) 261 0 [(0, .ref 64), (1, .int (am_i 4))] [] (I, J, R, 138) = some (some (.int (am_i 0)), (I, J, R, 138)) := f 4 (by omega) (by omega)
      have f1 : ∀ d, am_E (d + 1) 261 0 [(0, .ref 64), (1, .int (am_i 1))] [] (I, J, R, 138) = some (some (.int (am_i 0)), (I, J, R, 138)) := f 1 (by omega) (by omega)
      have t1 : ∀ d, am_E (d + 1) 261 0 [(0, .ref 64), (1, .int (am_i 2))] [] (I, J, R, 138) = some (some (.int (am_i 1)), (I, J, R, 138)) := t
      simp (disch := first | assumption | omega) only [rM hm, ly_csm, ly_cam, ly_cf, ly_kd, ly_ln, ↓Bool.cond_decide, cond_true, cond_false, ↓bI_p, ↓bV_p, ↓bL_p, bIJ_s, bVJ_s, bLJ_s, ↓am_let_s, Nat.blt, Nat.ble, Bool.and_true, Bool.true_and, Bool.and_self, Int.cast_ofNat_Int, am_i_add, am_i_sub, am_i_mul, am_ok_i, am_i_cl, n_lt, n_le, n_eq, n_lt0, n_le0, n_0lt, n_0le, n_eq0, ne_eq, ↓reduceIte, not_true_eq_false, not_false_eq_true, and_true, true_and, and_false, false_and, eq_T, eq_F, lt_T, lt_F, le_T, le_F, qn_T, qn_F, and_F, b01_T, b01_F, e_isIn, Int32.toInt_toInt64, am_i_toInt, am_l_toInt, Int.toNat_natCast, Int.reduceToNat, Int.reduceAdd, Int.reduceSub, Int.reduceMul, Int.reduceNeg, Nat.reduceAdd, Nat.reduceMul, Nat.add_zero, Nat.mul_zero, Nat.zero_add, am_zb0, am_zb1, f1, f3, f4, t1, a1, sg_X12_qGoesOn_279]
    · have t1 : ∀ d, am_E (d + 1) 261 0 [(0, .ref 64), (1, .int (am_i 3))] [] (I, J, R, 138) = some (some (.int (am_i 1)), (I, J, R, 138)) := t
      simp (disch := first | assumption | omega) only [rM hm, ly_csm, ly_cam, ly_cf, ly_kd, ly_ln, ↓Bool.cond_decide, cond_true, cond_false, ↓bI_p, ↓bV_p, ↓bL_p, bIJ_s, bVJ_s, bLJ_s, ↓am_let_s, Nat.blt, Nat.ble, Bool.and_true, Bool.true_and, Bool.and_self, Int.cast_ofNat_Int, am_i_add, am_i_sub, am_i_mul, am_ok_i, am_i_cl, n_lt, n_le, n_eq, n_lt0, n_le0, n_0lt, n_0le, n_eq0, ne_eq, ↓reduceIte, not_true_eq_false, not_false_eq_true, and_true, true_and, and_false, false_and, eq_T, eq_F, lt_T, lt_F, le_T, le_F, qn_T, qn_F, and_F, b01_T, b01_F, e_isIn, Int32.toInt_toInt64, am_i_toInt, am_l_toInt, Int.toNat_natCast, Int.reduceToNat, Int.reduceAdd, Int.reduceSub, Int.reduceMul, Int.reduceNeg, Nat.reduceAdd, Nat.reduceMul, Nat.add_zero, Nat.mul_zero, Nat.zero_add, am_zb0, am_zb1, t1, a1, sg_X12_qGoesOn_279]
    · have f3 : ∀ d, am_E (d + 1) 261 0 [(0, .ref 64), (1, .int (am_i 3))] [] (I, J, R, 138) = some (some (.int (am_i 0)), (I, J, R, 138)) := f 3 (by omega) (by omega)
      have t1 : ∀ d, am_E (d + 1) 261 0 [(0, .ref 64), (1, .int (am_i 4))] [] (I, J, R, 138) = some (some (.int (am_i 1)), (I, J, R, 138)) := t
      simp (disch := first | assumption | omega) only [rM hm, ly_csm, ly_cam, ly_cf, ly_kd, ly_ln, ↓Bool.cond_decide, cond_true, cond_false, ↓bI_p, ↓bV_p, ↓bL_p, bIJ_s, bVJ_s, bLJ_s, ↓am_let_s, Nat.blt, Nat.ble, Bool.and_true, Bool.true_and, Bool.and_self, Int.cast_ofNat_Int, am_i_add, am_i_sub, am_i_mul, am_ok_i, am_i_cl, n_lt, n_le, n_eq, n_lt0, n_le0, n_0lt, n_0le, n_eq0, ne_eq, ↓reduceIte, not_true_eq_false, not_false_eq_true, and_true, true_and, and_false, false_and, eq_T, eq_F, lt_T, lt_F, le_T, le_F, qn_T, qn_F, and_F, b01_T, b01_F, e_isIn, Int32.toInt_toInt64, am_i_toInt, am_l_toInt, Int.toNat_natCast, Int.reduceToNat, Int.reduceAdd, Int.reduceSub, Int.reduceMul, Int.reduceNeg, Nat.reduceAdd, Nat.reduceMul, Nat.add_zero, Nat.mul_zero, Nat.zero_add, am_zb0, am_zb1, f3, t1, a1, sg_X12_qGoesOn_279]
end MY2
