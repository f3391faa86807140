/-! ===== a test of the reference against the grammar ===== -/
noncomputable def tA1 (D : Nat) (J : tJ) (R : tR) (I : tI) : am_R := am_E (D + 1) 276 2 [(0, .ref 64), (1, .int (am_i 1))] [] (I, J, R, 138)
noncomputable def tA2 (D : Nat) (J : tJ) (R : tR) (I : tI) : am_R := am_bI (am_E D 277 0 [(0, .ref 64)] [] (I, J, R, 138)) (fun v M5 => bif v = 0 then am_E (D + 1) 276 105 [(0, .ref 64)] [] M5 else am_E (D + 1) 276 2 [(0, .ref 64), (1, .int (am_i 1))] [] M5)
def tG (T : Nat → Nat) (n so D : Nat) (J : tJ) (R : tR) (S : am_R) (r : pR) (I : tI) (Q : Nat → List Int → tI → Prop) : Prop := (r.1 = 0 → ∃ I', S = tA2 D J R I' ∧ Q r.2.1 (r.2.2.map encM) I' ∧ yN I I') ∧ (r.1 ≠ 0 → ∃ I', S = some (none, (I', J, R, 138)) ∧ yE T n so 0 0 r.1 r.2.1 I' ∧ yN I I')
def tq5 (T : Nat → Nat) (n so o : Nat) (W : List Nat) (C : List Int) (p : Nat) (l : List Int) (I : tI) : Prop := yS T n so 0 0 p (dnB W (C ++ l) o).2.2 (dnB W (C ++ l) o).1 (dnB W (C ++ l) o).2.1 I
def tq6 (T : Nat → Nat) (n so o : Nat) (W : List Nat) (C : List Int) (p : Nat) (l : List Int) (I : tI) : Prop := ∃ (ops : List Nat) (C' : List Int), (∀ w ∈ ops, w = 10) ∧ C' ++ cI ops = C ++ l ∧ yS T n so 0 0 p o (ops ++ W) C' I ∧ ¬ tW T n p = (21 : Nat)
def tq8 (T : Nat → Nat) (n so o : Nat) (W : List Nat) (C : List Int) (p : Nat) (l : List Int) (I : tI) : Prop := ∃ (ops : List Nat) (C' : List Int), (∀ w ∈ ops, w = 10 ∨ w = 11) ∧ C' ++ cI ops = C ++ l ∧ yS T n so 0 0 p o (ops ++ W) C' I ∧ ¬ tW T n p = (21 : Nat) ∧ ¬ tW T n p = (20 : Nat)
def tP5 (T : Nat → Nat) (n so D : Nat) (J : tJ) (R : tR) (f : Nat) : Prop := ∀ (o p : Nat) (W : List Nat) (C : List Int) (I : tI), 10 * (n - p) + 5 + 1 ≤ f → yS T n so 0 0 p o W C I → (∀ w, W.head? = some w → 10 ≤ w ∧ w ≤ 25) → tG T n so D J R (tA1 D J R I) (pG T n so f 5 o p) I (tq5 T n so o W C)
def tP6 (T : Nat → Nat) (n so D : Nat) (J : tJ) (R : tR) (f : Nat) : Prop := ∀ (o p : Nat) (W : List Nat) (C : List Int) (I : tI), 10 * (n - p) + 6 + 1 ≤ f → yS T n so 0 0 p o W C I → (∀ w, W.head? = some w → 10 < w ∧ w ≤ 25 ∧ w ≠ 12) → tG T n so D J R (tA1 D J R I) (pG T n so f 6 o p) I (tq6 T n so o W C)
def tP7 (T : Nat → Nat) (n so D : Nat) (J : tJ) (R : tR) (f : Nat) : Prop := ∀ (o p : Nat) (ops W : List Nat) (C : List Int) (I : tI), 10 * (n - p) + 0 + 1 ≤ f → yS T n so 0 0 p o (ops ++ W) C I → (∀ w ∈ ops, w = 10) → (∀ w, W.head? = some w → 10 < w ∧ w ≤ 25 ∧ w ≠ 12) → tG T n so D J R (tA2 D J R I) (pG T n so f 7 o p) I (tq6 T n so o W (C ++ cI ops))
def tP8 (T : Nat → Nat) (n so D : Nat) (J : tJ) (R : tR) (f : Nat) : Prop := ∀ (o p : Nat) (W : List Nat) (C : List Int) (I : tI), 10 * (n - p) + 8 + 1 ≤ f → yS T n so 0 0 p o W C I → (∀ w, W.head? = some w → 12 < w ∧ w ≤ 25) → tG T n so D J R (tA1 D J R I) (pG T n so f 8 o p) I (tq8 T n so o W C)
def tP9 (T : Nat → Nat) (n so D : Nat) (J : tJ) (R : tR) (f : Nat) : Prop := ∀ (o p : Nat) (ops W : List Nat) (C : List Int) (I : tI), 10 * (n - p) + 0 + 1 ≤ f → yS T n so 0 0 p o (ops ++ W) C I → (∀ w ∈ ops, w = 10 ∨ w = 11) → (∀ w, W.head? = some w → 12 < w ∧ w ≤ 25) → ¬ tW T n p = (21 : Nat) → tG T n so D J R (tA2 D J R I) (pG T n so f 9 o p) I (tq8 T n so o W (C ++ cI ops))
section MT2
variable {d D : Nat} {J : tJ} {R : tR} {T : Nat → Nat} {n so p o f : Nat} {W : List Nat} {C : List Int} {I I' I'' : tI} {S : am_R} {r : pR} {Q Q' : Nat → List Int → tI → Prop}
theorem tG_b {k : Nat → pR} (h : tG T n so D J R S r I Q) (hk : r.1 = 0 → ∀ I', Q r.2.1 (r.2.2.map encM) I' → tG T n so D J R (tA2 D J R I') (k r.2.1) I' (fun p' l I'' => Q' p' (r.2.2.map encM ++ l) I'')) : tG T n so D J R S (pB r k) I Q' := by
  by_cases q : r.1 = 0
  · rw [pB_0 q]
    obtain ⟨I1, a1, a2, a3⟩ := h.1 q
    obtain ⟨g1, g2⟩ := hk q I1 a2
    refine ⟨fun e => ?_, fun e => ?_⟩
    · obtain ⟨I2, b1, b2, b3⟩ := g1 e
      refine ⟨I2, by rw [a1, b1], ?_, yN_t a3 b3⟩
      show Q' (k r.2.1).2.1 ((r.2.2 ++ (k r.2.1).2.2).map encM) I2
      rw [List.map_append]
      exact b2
    · obtain ⟨I2, b1, b2, b3⟩ := g2 e
      exact ⟨I2, by rw [a1, b1], b2, yN_t a3 b3⟩
  · rw [pB_n q]
    exact ⟨fun e => absurd e q, h.2⟩
theorem tG_n (hn : yN I I') (h : tG T n so D J R S r I' Q) : tG T n so D J R S r I Q := ⟨fun e => by obtain ⟨I2, b1, b2, b3⟩ := h.1 e; exact ⟨I2, b1, b2, yN_t hn b3⟩, fun e => by obtain ⟨I2, b1, b2, b3⟩ := h.2 e; exact ⟨I2, b1, b2, yN_t hn b3⟩⟩
theorem tG_q (h : tG T n so D J R S r I Q) (hq : r.1 = 0 → ∀ I', Q r.2.1 (r.2.2.map encM) I' → Q' r.2.1 (r.2.2.map encM) I') : tG T n so D J R S r I Q' := ⟨fun e => by obtain ⟨I2, b1, b2, b3⟩ := h.1 e; exact ⟨I2, b1, hq e I2 b2, b3⟩, h.2⟩
theorem tG_t {k : Nat → pR} {t : List tok} (h : tG T n so D J R S (k p) I (fun p' l I'' => Q' p' (t.map encM ++ l) I'')) : tG T n so D J R S (pB (pT p t) k) I Q' := by
  rw [pB_0 rfl]
  refine ⟨fun e => ?_, fun e => h.2 e⟩
  obtain ⟨I2, b1, b2, b3⟩ := h.1 e
  refine ⟨I2, b1, ?_, b3⟩
  show Q' (k p).2.1 ((t ++ (k p).2.2).map encM) I2
  rw [List.map_append]
  exact b2
theorem dnB_i (h : ∀ w, W.head? = some w → w ≠ 12) : dnB W C o = (W, C, o) := by
  cases W with
  | nil => rfl
  | cons w W => exact if_neg (h w rfl)
theorem t_on (h : am_E D 277 0 [(0, .ref 64)] [] (I, J, R, 138) = some (some (.int (am_i 1)), (I', J, R, 138))) : tA2 D J R I = tA1 D J R I' := by
  unfold tA2
  rw [h]
  rfl
theorem t_er (hm : st_Rm R) {e pl : Nat} (h : yE T n so 0 0 e pl I) : ∀ v : Int32, am_E (d + 1) 276 2 [(0, .ref 64), (1, .int v)] [] (I, J, R, 138) = some (none, (I, J, R, 138)) := fun v => by
  have h5 := yE_5 h
  have e110 : am_E (d + 1) 276 110 [(0, .ref 64)] [] (I, J, R, 138) = some (none, (I, J, R, 138)) := by
    rw [sg_X12_qTest_110]
    simp (disch := first | assumption | omega) only [rM hm, ly_csm, ly_cam, ly_cf, ly_kd, ly_ln, ↓Bool.cond_decide, cond_true, cond_false, ↓bI_p, ↓bV_p, ↓bL_p, bIJ_s, bVJ_s, bLJ_s, ↓am_let_s, Nat.blt, Nat.ble, Bool.and_true, Bool.true_and, Bool.and_self, Int.cast_ofNat_Int, am_i_add, am_i_sub, am_i_mul, am_ok_i, am_i_cl, n_lt, n_le, n_eq, n_lt0, n_le0, n_0lt, n_0le, n_eq0, ne_eq, ↓reduceIte, not_true_eq_false, not_false_eq_true, and_true, true_and, and_false, false_and, eq_T, eq_F, lt_T, lt_F, le_T, le_F, qn_T, qn_F, and_F, b01_T, b01_F, e_isIn, Int32.toInt_toInt64, am_i_toInt, am_l_toInt, Int.toNat_natCast, Int.reduceToNat, Int.reduceAdd, Int.reduceSub, Int.reduceMul, Int.reduceNeg, Nat.reduceAdd, Nat.reduceMul, Nat.add_zero, Nat.mul_zero, Nat.zero_add, am_zb0, am_zb1, h5, sg_X12_qTest_131]
  rw [sg_X12_qTest_2, e110]
  by_cases q : v = 0
  · rw [q]; rfl
  · simp (disch := first | assumption | omega) only [rM hm, ly_csm, ly_cam, ly_cf, ly_kd, ly_ln, ↓Bool.cond_decide, cond_true, cond_false, ↓bI_p, ↓bV_p, ↓bL_p, bIJ_s, bVJ_s, bLJ_s, ↓am_let_s, Nat.blt, Nat.ble, Bool.and_true, Bool.true_and, Bool.and_self, Int.cast_ofNat_Int, am_i_add, am_i_sub, am_i_mul, am_ok_i, am_i_cl, n_lt, n_le, n_eq, n_lt0, n_le0, n_0lt, n_0le, n_eq0, ne_eq, ↓reduceIte, not_true_eq_false, not_false_eq_true, and_true, true_and, and_false, false_and, eq_T, eq_F, lt_T, lt_F, le_T, le_F, qn_T, qn_F, and_F, b01_T, b01_F, e_isIn, Int32.toInt_toInt64, am_i_toInt, am_l_toInt, Int.toNat_natCast, Int.reduceToNat, Int.reduceAdd, Int.reduceSub, Int.reduceMul, Int.reduceNeg, Nat.reduceAdd, Nat.reduceMul, Nat.add_zero, Nat.mul_zero, Nat.zero_add, am_zb0, am_zb1, h5]
    split <;> rfl
theorem t_off (hm : st_Rm R) {e pl : Nat} (hE : yE T n so 0 0 e pl I') (h : am_E D 277 0 [(0, .ref 64)] [] (I, J, R, 138) = some (some (.int (am_i 0)), (I', J, R, 138))) : tA2 D J R I = some (none, (I', J, R, 138)) := by
  unfold tA2
  rw [h]
  show am_E (D + 1) 276 105 [(0, .ref 64)] [] (I', J, R, 138) = _
  rw [sg_X12_qTest_105]
  exact t_er hm hE _
/-- an opening square where a fact is asked for -/
theorem t_open (hm : st_Rm R) (h : yS T n so 0 0 p o W C I) (hg : tSg T n p = (91 : Nat)) : ∃ I', (o < 6 → tA1 (d + 9) J R I = tA1 (d + 9) J R I' ∧ yS T n so 0 0 (tE T n p) (o + 1) (25 :: W) C I') ∧ (6 ≤ o → tA1 (d + 9) J R I = some (none, (I', J, R, 138)) ∧ yE T n so 0 0 4 (tAt T n p) I') ∧ yN I I' := by
  have ha := yS_a h
  obtain ⟨hT, hR, hS, hp, hl, hnb, hb⟩ := h
  have n16 := hT.1
  have h5 := hR.2.1
  have h5a : atP T n p I 64 5 = am_i 0 := ha.2.1.2.1
  have lk := fun d => e_look (d := d) (J := J) hm hT hp hR
  have qc : tC T n p = ((91 : Nat) : Int) := (tC_S (by decide) (by decide)).mpr hg
  have a2 : atP T n p I 64 2 = am_i (tAt T n p) := atP_2
  have tb := tE_sg hg hp
  have eE := tE_3 (tSg_3 hg)
  have ab := tAt_b (T := T) hp
  unfold tA1
  by_cases q : o < 6
  · obtain ⟨I1, b1, b2, b3⟩ := e_qOpens (J := J) hm ha.2.2.1 (w := 25) (pl := am_i (tAt T n p)) (by omega) (by omega) q h5a
    have b1' : ∀ d, am_E (d + 2) 260 0 [(0, .ref 64), (1, .int (am_i 25)), (2, .int (am_i (tAt T n p)))] [] (atP T n p I, J, R, 138) = some (none, (I1, J, R, 138)) := b1
    have c2 : I1 64 2 = am_i (tAt T n p) := by rw [b3 _ _ (by unfold sqC; omega)]; exact a2
    have m1 : mrX T n p I1 := mrX_c ha.2.1 (fun k hk => b3 _ _ (by unfold sqC; omega))
    have m2 : mrX T n (tE T n p) (am_up I1 64 2 (am_i (tE T n p))) := sg_n hg m1 hp am_up_e (fun q k e => am_up_o e)
    refine ⟨am_up I1 64 2 (am_i (tE T n p)), fun _ => ⟨?_, ?_⟩, fun c => absurd q (by omega), ?_⟩
    · conv => lhs; rw [sg_X12_qTest_2]
      rw [eE]
      simp (disch := first | assumption | omega) only [rM hm, ly_csm, ly_cam, ly_cf, ly_kd, ly_ln, ↓Bool.cond_decide, cond_true, cond_false, ↓bI_p, ↓bV_p, ↓bL_p, bIJ_s, bVJ_s, bLJ_s, ↓am_let_s, Nat.blt, Nat.ble, Bool.and_true, Bool.true_and, Bool.and_self, Int.cast_ofNat_Int, am_i_add, am_i_sub, am_i_mul, am_ok_i, am_i_cl, n_lt, n_le, n_eq, n_lt0, n_le0, n_0lt, n_0le, n_eq0, ne_eq, ↓reduceIte, not_true_eq_false, not_false_eq_true, and_true, true_and, and_false, false_and, eq_T, eq_F, lt_T, lt_F, le_T, le_F, qn_T, qn_F, and_F, b01_T, b01_F, e_isIn, Int32.toInt_toInt64, am_i_toInt, am_l_toInt, Int.toNat_natCast, Int.reduceToNat, Int.reduceAdd, Int.reduceSub, Int.reduceMul, Int.reduceNeg, Nat.reduceAdd, Nat.reduceMul, Nat.add_zero, Nat.mul_zero, Nat.zero_add, am_zb0, am_zb1, h5, lk, qc, b1', a2, c2, am_i_s]
    · refine ⟨txM_y (txM_y ha.1 (yN_q b3)) (yN_m (fun q k e => am_up_o (by unfold mlC at e; omega))), m2, sS_m b2 (fun q k e => am_up_o (by unfold mlC at e; omega)), tb.2, by show C.length + (W.length + 1) + 1 + 0 ≤ _; omega, by rw [nbW_c, if_pos (by omega), hnb]; omega, by omega⟩
    · exact yN_t yN_a (yN_t (yN_q b3) (yN_m (fun q k e => am_up_o (by unfold mlC at e; omega))))
  · have o6 : o = 6 := by have := hS.2.2.2.2.2.2.2.2.2.2; omega
    have e6 := fun d => e_qOpens6 (d := d) (J := J) hm ha.2.2.1 (w := 25) (pl := am_i (tAt T n p)) o6 h5a
    have e6' : ∀ d, am_E (d + 2) 260 0 [(0, .ref 64), (1, .int (am_i 25)), (2, .int (am_i (tAt T n p)))] [] (atP T n p I, J, R, 138) = some (none, (am_up (am_up (atP T n p I) 64 5 (am_i 4)) 64 6 (am_i (tAt T n p)), J, R, 138)) := e6
    have u2 : am_up (am_up (atP T n p I) 64 5 (am_i 4)) 64 6 (am_i (tAt T n p)) 64 2 = am_i (tAt T n p) := by rw [am_up_o (by omega), am_up_o (by omega)]; exact a2
    have fr : ∀ q k, ¬ mlC q k → am_up (am_up (am_up (atP T n p I) 64 5 (am_i 4)) 64 6 (am_i (tAt T n p))) 64 2 (am_i (tAt T n p + 1 : Nat)) q k = atP T n p I q k := fun q k e => by unfold mlC at e; rw [am_up_o (by omega), am_up_o (by omega), am_up_o (by omega)]
    have y1 : yE T n so 0 0 4 (tAt T n p) (am_up (am_up (am_up (atP T n p I) 64 5 (am_i 4)) 64 6 (am_i (tAt T n p))) 64 2 (am_i (tAt T n p + 1 : Nat))) := yE_m ha (by omega) (by omega) (by rw [am_up_o (by omega), am_up_o (by omega), am_up_e]; rfl) (by rw [am_up_o (by omega), am_up_e]) fr
    have er := fun d => t_er (d := d) (J := J) (R := R) hm y1 (am_i 1)
    refine ⟨_, fun c => absurd c q, fun _ => ⟨?_, y1⟩, yN_t yN_a (yN_m fr)⟩
    rw [sg_X12_qTest_2]
    simp (disch := first | assumption | omega) only [rM hm, ly_csm, ly_cam, ly_cf, ly_kd, ly_ln, ↓Bool.cond_decide, cond_true, cond_false, ↓bI_p, ↓bV_p, ↓bL_p, bIJ_s, bVJ_s, bLJ_s, ↓am_let_s, Nat.blt, Nat.ble, Bool.and_true, Bool.true_and, Bool.and_self, Int.cast_ofNat_Int, am_i_add, am_i_sub, am_i_mul, am_ok_i, am_i_cl, n_lt, n_le, n_eq, n_lt0, n_le0, n_0lt, n_0le, n_eq0, ne_eq, ↓reduceIte, not_true_eq_false, not_false_eq_true, and_true, true_and, and_false, false_and, eq_T, eq_F, lt_T, lt_F, le_T, le_F, qn_T, qn_F, and_F, b01_T, b01_F, e_isIn, Int32.toInt_toInt64, am_i_toInt, am_l_toInt, Int.toNat_natCast, Int.reduceToNat, Int.reduceAdd, Int.reduceSub, Int.reduceMul, Int.reduceNeg, Nat.reduceAdd, Nat.reduceMul, Nat.add_zero, Nat.mul_zero, Nat.zero_add, am_zb0, am_zb1, h5, lk, qc, e6', a2, u2, am_i_s, er]
/-- not -/
theorem t_not (hm : st_Rm R) (h : yS T n so 0 0 p o W C I) (hg : tW T n p = (22 : Nat)) : ∃ I', (o < 6 → tA1 (d + 9) J R I = tA1 (d + 9) J R I' ∧ yS T n so 0 0 (tE T n p) (o + 1) (12 :: W) C I') ∧ (6 ≤ o → tA1 (d + 9) J R I = some (none, (I', J, R, 138)) ∧ yE T n so 0 0 4 (tAt T n p) I') ∧ yN I I' := by
  have h0 := h
  have ha := yS_a h
  obtain ⟨hT, hR, hS, hp, hl, hnb, hb⟩ := h
  have n16 := hT.1
  have h5 := hR.2.1
  have h5a : atP T n p I 64 5 = am_i 0 := ha.2.1.2.1
  have lk := fun d => e_look (d := d) (J := J) hm hT hp hR
  have tcb := tC_b (T := T) (n := n) (p := p) (fun k hk => (hT.2.1 k hk).1)
  have qn : ¬ tC T n p = 91 := fun c => wd_ns hg ((tC_S (T := T) (n := n) (p := p) (c := 91) (by decide) (by decide)).mp c)
  have a2 : atP T n p I 64 2 = am_i (tAt T n p) := atP_2
  have i22 := (ih_a (J := J) hm hT hp hR (q := 117) (w := 22) (by decide) (by decide)).2
  rw [b01_t hg] at i22
  have tb := tE_wd hg hp
  have ab := tAt_b (T := T) hp
  unfold tA1
  by_cases q : o < 6
  · obtain ⟨I1, b1, b2, b3⟩ := e_qOpens (J := J) hm ha.2.2.1 (w := 12) (pl := am_i (tAt T n p)) (by omega) (by omega) q h5a
    have b1' : ∀ d, am_E (d + 2) 260 0 [(0, .ref 64), (1, .int (am_i 12)), (2, .int (am_i (tAt T n p)))] [] (atP T n p I, J, R, 138) = some (none, (I1, J, R, 138)) := b1
    have m1 : mrX T n p I1 := mrX_c ha.2.1 (fun k hk => b3 _ _ (by unfold sqC; omega))
    have tx1 : txM T n I1 := txM_y ha.1 (yN_q b3)
    obtain ⟨I2, s1, s2, s3⟩ := m_asks (d := d + 5) (J := J) hm tx1 hp m1 (q := 117) (by decide)
    have w22 : wdQ 117 = 22 := by decide
    rw [w22] at s2
    unfold aW at s2
    rw [if_pos hg] at s2
    refine ⟨I2, fun _ => ⟨?_, ?_⟩, fun c => absurd q (by omega), ?_⟩
    · conv => lhs; rw [sg_X12_qTest_2]
      simp (disch := first | assumption | omega) only [rM hm, ly_csm, ly_cam, ly_cf, ly_kd, ly_ln, ↓Bool.cond_decide, cond_true, cond_false, ↓bI_p, ↓bV_p, ↓bL_p, bIJ_s, bVJ_s, bLJ_s, ↓am_let_s, Nat.blt, Nat.ble, Bool.and_true, Bool.true_and, Bool.and_self, Int.cast_ofNat_Int, am_i_add, am_i_sub, am_i_mul, am_ok_i, am_i_cl, n_lt, n_le, n_eq, n_lt0, n_le0, n_0lt, n_0le, n_eq0, ne_eq, ↓reduceIte, not_true_eq_false, not_false_eq_true, and_true, true_and, and_false, false_and, eq_T, eq_F, lt_T, lt_F, le_T, le_F, qn_T, qn_F, and_F, b01_T, b01_F, e_isIn, Int32.toInt_toInt64, am_i_toInt, am_l_toInt, Int.toNat_natCast, Int.reduceToNat, Int.reduceAdd, Int.reduceSub, Int.reduceMul, Int.reduceNeg, Nat.reduceAdd, Nat.reduceMul, Nat.add_zero, Nat.mul_zero, Nat.zero_add, am_zb0, am_zb1, h5, lk, i22, b1', a2, s1]
    · exact ⟨txM_y tx1 (yN_m s3), s2.1 rfl, sS_m b2 s3, tb.2, by show C.length + (W.length + 1) + 1 + 0 ≤ _; omega, by rw [nbW_c, if_pos (by omega), hnb]; omega, by omega⟩
    · exact yN_t yN_a (yN_t (yN_q b3) (yN_m s3))
  · have o6 : o = 6 := by have := hS.2.2.2.2.2.2.2.2.2.2; omega
    have e6 := fun d => e_qOpens6 (d := d) (J := J) hm ha.2.2.1 (w := 12) (pl := am_i (tAt T n p)) o6 h5a
    have e6' : ∀ d, am_E (d + 2) 260 0 [(0, .ref 64), (1, .int (am_i 12)), (2, .int (am_i (tAt T n p)))] [] (atP T n p I, J, R, 138) = some (none, (am_up (am_up (atP T n p I) 64 5 (am_i 4)) 64 6 (am_i (tAt T n p)), J, R, 138)) := e6
    have fr : ∀ q k, ¬ mlC q k → am_up (am_up (atP T n p I) 64 5 (am_i 4)) 64 6 (am_i (tAt T n p)) q k = atP T n p I q k := fun q k e => by unfold mlC at e; rw [am_up_o (by omega), am_up_o (by omega)]
    have y1 : yE T n so 0 0 4 (tAt T n p) (am_up (am_up (atP T n p I) 64 5 (am_i 4)) 64 6 (am_i (tAt T n p))) := yE_m ha (by omega) (by omega) (by rw [am_up_o (by omega), am_up_e]; rfl) am_up_e fr
    have er := fun d => t_er (d := d) (J := J) (R := R) hm y1 (am_i 1)
    have aw := fun d => e_awE (d := d) (J := J) (q := 117) hm y1
    refine ⟨_, fun c => absurd c q, fun _ => ⟨?_, y1⟩, yN_t yN_a (yN_m fr)⟩
    rw [sg_X12_qTest_2]
    simp (disch := first | assumption | omega) only [rM hm, ly_csm, ly_cam, ly_cf, ly_kd, ly_ln, ↓Bool.cond_decide, cond_true, cond_false, ↓bI_p, ↓bV_p, ↓bL_p, bIJ_s, bVJ_s, bLJ_s, ↓am_let_s, Nat.blt, Nat.ble, Bool.and_true, Bool.true_and, Bool.and_self, Int.cast_ofNat_Int, am_i_add, am_i_sub, am_i_mul, am_ok_i, am_i_cl, n_lt, n_le, n_eq, n_lt0, n_le0, n_0lt, n_0le, n_eq0, ne_eq, ↓reduceIte, not_true_eq_false, not_false_eq_true, and_true, true_and, and_false, false_and, eq_T, eq_F, lt_T, lt_F, le_T, le_F, qn_T, qn_F, and_F, b01_T, b01_F, e_isIn, Int32.toInt_toInt64, am_i_toInt, am_l_toInt, Int.toNat_natCast, Int.reduceToNat, Int.reduceAdd, Int.reduceSub, Int.reduceMul, Int.reduceNeg, Nat.reduceAdd, Nat.reduceMul, Nat.add_zero, Nat.mul_zero, Nat.zero_add, am_zb0, am_zb1, h5, lk, i22, e6', a2, aw, er]
/-- a fact, and the nots before it -/
theorem t_fact (hm : st_Rm R) (h : yS T n so 0 0 p o W C I) (hW : ∀ w, W.head? = some w → 10 ≤ w ∧ w ≤ 25) (hf : 10 * (n - p) + 3 + 1 ≤ f) (n91 : ¬ tSg T n p = (91 : Nat)) (n22 : ¬ tW T n p = (22 : Nat)) : tG T n so (d + 9) J R (tA1 (d + 9) J R I) (pFa T n so f o p) I (tq5 T n so o W C) := by
  have ha := yS_a h
  have hT := h.1
  have hR := h.2.1
  have hp := h.2.2.2.1
  have h5 := hR.2.1
  have lk := fun d => e_look (d := d) (J := J) hm hT hp hR
  have tcb := tC_b (T := T) (n := n) (p := p) (fun k hk => (hT.2.1 k hk).1)
  have qn : ¬ tC T n p = 91 := fun c => n91 ((tC_S (T := T) (n := n) (p := p) (c := 91) (by decide) (by decide)).mp c)
  have i22 := (ih_a (J := J) hm hT hp hR (q := 117) (w := 22) (by decide) (by decide)).2
  rw [b01_f n22] at i22
  obtain ⟨I1, a1, a2, a3, a4⟩ := e_fact (d := d) (J := J) (f := f) hm ha (fun w hw => by have := hW w hw; omega) hf
  by_cases q : (pFa T n so f o p).1 = 0
  · obtain ⟨I2, b1, b2, b3⟩ := e_nots (J := J) hm W _ o I1 (a2 q)
    refine ⟨fun _ => ⟨I2, ?_, b2, yN_t yN_a (yN_t a4 b3)⟩, fun c => absurd q c⟩
    have h52 := b2.2.1.2.1
    unfold tA1 tA2
    conv => lhs; rw [sg_X12_qTest_2]
    simp (disch := first | assumption | omega) only [rM hm, ly_csm, ly_cam, ly_cf, ly_kd, ly_ln, ↓Bool.cond_decide, cond_true, cond_false, ↓bI_p, ↓bV_p, ↓bL_p, bIJ_s, bVJ_s, bLJ_s, ↓am_let_s, Nat.blt, Nat.ble, Bool.and_true, Bool.true_and, Bool.and_self, Int.cast_ofNat_Int, am_i_add, am_i_sub, am_i_mul, am_ok_i, am_i_cl, n_lt, n_le, n_eq, n_lt0, n_le0, n_0lt, n_0le, n_eq0, ne_eq, ↓reduceIte, not_true_eq_false, not_false_eq_true, and_true, true_and, and_false, false_and, eq_T, eq_F, lt_T, lt_F, le_T, le_F, qn_T, qn_F, and_F, b01_T, b01_F, e_isIn, Int32.toInt_toInt64, am_i_toInt, am_l_toInt, Int.toNat_natCast, Int.reduceToNat, Int.reduceAdd, Int.reduceSub, Int.reduceMul, Int.reduceNeg, Nat.reduceAdd, Nat.reduceMul, Nat.add_zero, Nat.mul_zero, Nat.zero_add, am_zb0, am_zb1, h5, lk, i22, a1, b1, h52]
  · have y1 := a3 q
    have h52 := yE_5 y1
    have ne := fun d => e_notE (d := d) (J := J) (R := R) hm y1
    have er := fun d => t_er (d := d) (J := J) (R := R) hm y1 (am_i 0)
    refine ⟨fun c => absurd c q, fun _ => ⟨I1, ?_, y1, yN_t yN_a a4⟩⟩
    unfold tA1
    rw [sg_X12_qTest_2]
    simp (disch := first | assumption | omega) only [rM hm, ly_csm, ly_cam, ly_cf, ly_kd, ly_ln, ↓Bool.cond_decide, cond_true, cond_false, ↓bI_p, ↓bV_p, ↓bL_p, bIJ_s, bVJ_s, bLJ_s, ↓am_let_s, Nat.blt, Nat.ble, Bool.and_true, Bool.true_and, Bool.and_self, Int.cast_ofNat_Int, am_i_add, am_i_sub, am_i_mul, am_ok_i, am_i_cl, n_lt, n_le, n_eq, n_lt0, n_le0, n_0lt, n_0le, n_eq0, ne_eq, ↓reduceIte, not_true_eq_false, not_false_eq_true, and_true, true_and, and_false, false_and, eq_T, eq_F, lt_T, lt_F, le_T, le_F, qn_T, qn_F, and_F, b01_T, b01_F, e_isIn, Int32.toInt_toInt64, am_i_toInt, am_l_toInt, Int.toNat_natCast, Int.reduceToNat, Int.reduceAdd, Int.reduceSub, Int.reduceMul, Int.reduceNeg, Nat.reduceAdd, Nat.reduceMul, Nat.add_zero, Nat.mul_zero, Nat.zero_add, am_zb0, am_zb1, h5, lk, i22, a1, ne, h52, sg_X12_qTest_105, er]
end MT2
