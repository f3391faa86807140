/-! ===== statements: the class; score, formulas ===== -/
section XSC
variable {d : Nat} {J : tJ} {R : tR} {T : Nat → Nat} {n p i c : Nat} {I I' : tI} {X : sSt} {r : Nat × Nat}
theorem sSc_g {v : Nat} {l : List sBo} {b j : Nat} : (sSc v l b)[j]? = if j = b then (l[j]?).map (fun x => (x.nm, x.mi, x.ti, x.ro, x.sc ++ [v])) else l[j]? := by
  unfold sSc
  rw [List.getElem?_modify]
  by_cases q : b = j
  · rw [if_pos q.symm]
    cases l[j]? with
    | none => rfl
    | some x => simp [q]
  · rw [if_neg (fun e => q e.symm)]
    cases l[j]? with
    | none => rfl
    | some x => simp [q]
theorem sSc_l {v : Nat} {l : List sBo} {b : Nat} : (sSc v l b).length = l.length := List.length_modify _ _ _
theorem xCh_score {b v : Nat} {x0 : sBo} (hc : c = 10 ∨ c = 20) (h : xCh c X I) (hs6 : ∀ x ∈ X.bn, x.sc.length ≤ 6) (hb : X.bn[b]? = some x0) (h5 : x0.sc.length < 6) (e1 : I' (c + 5) (11 * b + 5 + x0.sc.length) = am_i v) (e2 : I' (c + 4) b = am_i (x0.sc.length + 1 : Nat)) (e : ∀ q j, q ≠ 5 → ¬ (q = c + 5 ∧ j = 11 * b + 5 + x0.sc.length) → ¬ (q = c + 4 ∧ j = b) → I' q j = I q j) : xCh c (X.la, X.wd, X.sq, X.nw, X.sz, sSc v X.bn b, X.rd, X.wf, X.fo) I' := by
  obtain ⟨⟨a0, a1, a2, a3, a4, a5⟩, hbn, ⟨hz, hz2⟩, hr, hw, hf, h8⟩ := h
  have blt : b < X.bn.length := (List.getElem?_eq_some_iff.mp hb).1
  refine ⟨⟨?_, ?_, ?_, ?_, ?_, ?_⟩, fun j x hx => ?_, ⟨fun b h1 h2 => ?_, fun b hb => ?_⟩, fun r y hy => ?_, fun k hk => ?_, fun f hf3 => ⟨fun q => ?_, fun a l q => ?_⟩, ?_⟩
  · rw [e _ _ (by omega) (by omega) (by omega)]; exact a0
  · show I' c 1 = am_i ((sSc v X.bn b).length : Nat)
    rw [e _ _ (by omega) (by omega) (by omega), sSc_l]; exact a1
  · rw [e _ _ (by omega) (by omega) (by omega)]; exact a2
  · rw [e _ _ (by omega) (by omega) (by omega)]; exact a3
  · rw [e _ _ (by omega) (by omega) (by omega)]; exact a4
  · rw [e _ _ (by omega) (by omega) (by omega)]; exact a5
  · have hx' : (sSc v X.bn b)[j]? = some x := hx
    rw [sSc_g] at hx'
    by_cases q : j = b
    · rw [if_pos q, q, hb] at hx'
      have ex : (x0.nm, x0.mi, x0.ti, x0.ro, x0.sc ++ [v]) = x := Option.some.inj hx'
      subst ex
      subst q
      obtain ⟨b1, b2, b3, b4, b5, b6⟩ := hbn j x0 hb
      refine ⟨by rw [e _ _ (by omega) (by omega) (by omega)]; exact b1, ?_, by rw [e _ _ (by omega) (by omega) (by omega)]; exact b3, by rw [e _ _ (by omega) (by omega) (by omega)]; exact b4, by rw [e _ _ (by omega) (by omega) (by omega)]; exact b5, fun k w hv => ?_⟩
      · show I' (c + 4) j = am_i ((x0.sc ++ [v]).length : Nat)
        rw [List.length_append]; exact e2
      · have hv' : (x0.sc ++ [v])[k]? = some w := hv
        by_cases z : k < x0.sc.length
        · rw [List.getElem?_append_left z] at hv'
          rw [e _ _ (by omega) (by omega) (by omega)]
          exact b6 k w hv'
        · rw [List.getElem?_append_right (by omega)] at hv'
          have hk0 : k - x0.sc.length = 0 := by
            cases hk : k - x0.sc.length with
            | zero => rfl
            | succ m => rw [hk] at hv'; simp at hv'
          rw [hk0] at hv'
          have ex : v = w := by simpa using hv'
          subst ex
          obtain rfl : k = x0.sc.length := by omega
          exact e1
    · rw [if_neg q] at hx'
      obtain ⟨b1, b2, b3, b4, b5, b6⟩ := hbn j x hx'
      exact ⟨by rw [e _ _ (by omega) (by omega) (by omega)]; exact b1, by rw [e _ _ (by omega) (by omega) (by omega)]; exact b2, by rw [e _ _ (by omega) (by omega) (by omega)]; exact b3, by rw [e _ _ (by omega) (by omega) (by omega)]; exact b4, by rw [e _ _ (by omega) (by omega) (by omega)]; exact b5, fun k w hv => by
        have z : k < x.sc.length := (List.getElem?_eq_some_iff.mp hv).1
        have z2 := hs6 x (List.mem_of_getElem? hx')
        rw [e _ _ (by omega) (by omega) (by omega)]
        exact b6 k w hv⟩
  · have h1' : (sSc v X.bn _).length ≤ b := h1
    rw [sSc_l] at h1'
    rw [e _ _ (by omega) (by omega) (by omega)]
    exact hz b h1' h2
  · rw [e _ _ (by omega) (by omega) (by omega), e _ _ (by omega) (by omega) (by omega)]
    exact hz2 b hb
  · rw [e _ _ (by omega) (by omega) (by omega), e _ _ (by omega) (by omega) (by omega)]
    exact hr r y hy
  · rw [e _ _ (by omega) (by omega) (by omega)]; exact hw k hk
  · rw [e _ _ (by omega) (by omega) (by omega), e _ _ (by omega) (by omega) (by omega)]
    exact (hf f hf3).1 q
  · obtain ⟨c1, c2, c3⟩ := (hf f hf3).2 a l q
    exact ⟨by rw [e _ _ (by omega) (by omega) (by omega)]; exact c1, by rw [e _ _ (by omega) (by omega) (by omega)]; exact c2, fun k t ht => by rw [e _ _ (by omega) (by omega) (by omega)]; exact c3 k t ht⟩
  · rw [e _ _ (by omega) (by omega) (by omega)]; exact h8
theorem x_score (hx : st_Rx R) (h : xB T n c p i X I R) (hw : tW T n p = (5 : Nat)) : ∃ I', am_E (d + 6) 95 0 [(0, .ref 30)] [] (I, J, R, 138) = some (none, (I', J, R, 138)) ∧ xQ T n c (sdScore T n X p) I' ∧ xF c I I' := by
  obtain ⟨n16, hT, hS, h11, hX, hO, ⟨ac, hac, h83⟩, h2, hc⟩ := h
  have hp : p ≤ n := hO.1.2.2.2.2.2.2.2.2
  have b6 := hO.1.2.2.2.2.2.1
  have h82 := hX.2.2.2.2.2.2
  have sz := hO.1.2.2.2.2.2.2.2.1
  have r0 : xR T n (0, p) I := ⟨fun _ => ⟨hS, hp, h11⟩, fun e => absurd rfl e⟩
  obtain ⟨I1, a1, a2, a3⟩ := x_rX (d := d + 1) (J := J) hx hT r0 (fun _ => tW_4 (T := T) (n := n) (p := p) (by omega))
  rw [rS_0 rfl] at a2
  obtain ⟨s1, s2, s3⟩ := a2.1 rfl
  have s2' : tE T n p ≤ n := s2
  have s1' : scX T n (tE T n p) I1 := s1
  have T1 : txX T n I1 R := txX_c hT (fun q k e => a3 q k (by omega))
  have X1 : xCh c X I1 := xCh_c hX (fun q j e => a3 q j (by omega))
  obtain ⟨I2, b1, b2, b3, b4⟩ := x_needName (J := J) T1 s2' s1'
  have mb := aM_b (T := T) s2'
  have fin : ∀ I', (∀ q j, q ≠ 5 → I' q j = I q j) → (∃ s : Nat, s ≤ 1600 ∧ I' 8 2 = am_i s) ∧ (∃ a : Nat, a ≤ 1 ∧ I' 8 3 = am_i a) ∧ xF c I I' := fun I' e => ⟨⟨X.sz, by omega, by rw [e _ _ (by omega)]; exact h82⟩, ⟨ac, hac, by rw [e _ _ (by omega)]; exact h83⟩, fun q j z => e q j (by omega)⟩
  by_cases q1 : (aM T n (tE T n p)).1 = 0
  · have e1 := b2 q1
    subst e1
    obtain ⟨k1, tn6, nw, te2⟩ := tL_b q1
    obtain ⟨l1, l2, l3⟩ := tL_x s2' k1
    have hl : nOK (tL T n (tE T n p)) := ⟨by omega, by omega, l3⟩
    have h9 := (s1'.2.2.2.2.2.1 k1).2.2 tn6
    have h10 := s1'.2.2.2.2.1
    have h4 := s1'.2.2.1
    have bn := fun d => x_boatNamed (d := d) (J := J) hx hc hl X1 hO
    have sm := sWh_m (l := tL T n (tE T n p)) X.bn
    have mb2 := mb.1 q1
    by_cases q2 : sWh (tL T n (tE T n p)) X.bn = X.bn.length
    · rw [if_pos q2] at bn
      have ed : sdScore T n X p = (3, tAt T n (tE T n p), X) := by unfold sdScore; rw [sI_0 q1, if_pos q2]
      rw [ed]
      have r1 : xR T n (0, tE T n p) I2 := a2
      obtain ⟨I3, f1, f2, f3⟩ := x_rF (J := J) (R := R) (e := 3) (pl := tAt T n (tE T n p)) (v := am_i (tAt T n (tE T n p))) r1 (fun _ => rfl) (by decide) (by decide)
      have f1' : ∀ d, am_E (d + 1) 71 0 [(0, .ref 5), (1, .int (am_i 3)), (2, .int (am_i (tAt T n (tE T n p))))] [] (I2, J, R, 138) = some (none, (I3, J, R, 138)) := f1
      rw [rS_0 rfl] at f2
      obtain ⟨g1, g2, g3⟩ := fin I3 (fun q j e => by rw [f3 q j e, a3 q j e])
      refine ⟨I3, ?_, ⟨f2, fun e => absurd e (by show ¬ ((3 : Nat) = 0); decide), g1, g2⟩, g3⟩
      rw [sg_X10_readScore_0]
      simp (disch := first | assumption | omega) only [rX hx, ly_csx, ly_cax, ly_cf, ly_kd, ly_ln, ↓Bool.cond_decide, cond_true, cond_false, ↓bI_p, ↓bV_p, ↓bL_p, bIJ_s, bVJ_s, bLJ_s, ↓am_let_s, Nat.blt, Nat.ble, Bool.and_true, Bool.true_and, Bool.and_self, Int.cast_ofNat_Int, am_i_add, am_i_sub, am_i_mul, am_ok_i, am_i_cl, n_lt, n_le, n_eq, n_lt0, n_le0, n_0lt, n_0le, n_eq0, ne_eq, ↓reduceIte, not_true_eq_false, not_false_eq_true, and_true, true_and, and_false, false_and, eq_T, eq_F, lt_T, lt_F, le_T, le_F, qn_T, qn_F, and_F, b01_T, b01_F, e_isIn, Int32.toInt_toInt64, am_i_toInt, am_l_toInt, Int.toNat_natCast, Int.reduceToNat, Int.reduceAdd, Int.reduceSub, Int.reduceMul, Int.reduceNeg, Nat.reduceAdd, Nat.reduceMul, Nat.add_zero, Nat.mul_zero, Nat.zero_add, am_zb0, am_zb1, h2, rC hx hc, a1, b1, h10, h9, bn, h4, f1']
    · rw [if_neg q2] at bn
      obtain ⟨b, hb⟩ : ∃ b, b = sWh (tL T n (tE T n p)) X.bn := ⟨_, rfl⟩
      rw [← hb] at bn q2
      have blt : b < X.bn.length := by omega
      obtain ⟨x0, hx0⟩ : ∃ x, X.bn[b]? = some x := ⟨_, List.getElem?_eq_getElem blt⟩
      have x06 := (hO.2.1 x0 (List.mem_of_getElem? hx0)).2.2.2.1
      have sl : sLn X.bn b = x0.sc.length := by unfold sLn; rw [hx0]; rfl
      obtain ⟨I3, c1, c2, c3⟩ := x_rX (d := d + 1) (J := J) hx T1 a2 (fun _ => by show tK T n (tE T n p) ≠ 4; omega)
      rw [rS_0 rfl] at c2
      have c2' : xR T n (0, tE T n (tE T n p)) I3 := c2
      have T3 : txX T n I3 R := txX_c T1 (fun q k e => c3 q k (by omega))
      obtain ⟨v, I4, d1, d2, d3, d4, d5⟩ := x_rN (d := d) (J := J) hx T3 c2' (lo := 0) (hi := 7) (by omega) (by omega)
      rw [rS_0 rfl] at d2 d3 d4
      obtain ⟨r3, hr3⟩ : ∃ r3, r3 = aN T n (tE T n (tE T n p)) 0 7 := ⟨_, rfl⟩
      have hr3' : aN T n ((0, tE T n (tE T n p)) : Nat × Nat).2 0 7 = r3 := hr3.symm
      rw [hr3'] at d2 d3 d4
      have d1' : am_E (d + 5) 87 0 [(0, .ref 5), (1, .int (am_i 0)), (2, .int (am_i 7))] [] (I3, J, R, 138) = _ := d1
      have o4 : ∀ q j, q ≠ 5 → I4 q j = I q j := fun q j e => by rw [d5 q j e, c3 q j e, a3 q j e]
      have w4 : I4 (c + 4) b = am_i x0.sc.length := by rw [o4 _ _ (by omega)]; exact (hX.2.1 b x0 hx0).2.1
      have h34 : I3 5 4 = am_i (tAt T n (tE T n (tE T n p))) := (c2'.1 rfl).1.2.2.1
      have red : sdScore T n X p = (if r3.1 = 0 then (if x0.sc.length = 6 then (5, tAt T n (tE T n (tE T n p)), X) else (0, r3.2, (X.la, X.wd, X.sq, X.nw, X.sz, sSc (tV T n (tE T n (tE T n p))) X.bn b, X.rd, X.wf, X.fo))) else (r3.1, r3.2, X)) := by
        unfold sdScore
        rw [sI_0 q1, ← hb, if_neg q2, te2, ← hr3, sl]
        by_cases q3 : r3.1 = 0
        · rw [sI_0 q3, if_pos q3]
        · rw [sI_n q3, if_neg q3]
      rw [red]
      by_cases q6 : x0.sc.length = 6
      · have w4' : I4 (c + 4) b = am_i 6 := by rw [w4, q6]; rfl
        obtain ⟨I5, f1, f2, f3⟩ := x_rF (J := J) (R := R) (e := 5) (pl := tAt T n (tE T n (tE T n p))) (v := am_i (tAt T n (tE T n (tE T n p)))) d4 (fun _ => rfl) (by decide) (by decide)
        have f1' : ∀ d, am_E (d + 1) 71 0 [(0, .ref 5), (1, .int (am_i 5)), (2, .int (am_i (tAt T n (tE T n (tE T n p)))))] [] (I4, J, R, 138) = some (none, (I5, J, R, 138)) := f1
        obtain ⟨g1, g2, g3⟩ := fin I5 (fun q j e => by rw [f3 q j e, o4 q j e])
        refine ⟨I5, ?_, ⟨?_, fun e => ?_, g1, g2⟩, g3⟩
        · rw [sg_X10_readScore_0]
          simp (disch := first | assumption | omega) only [rX hx, ly_csx, ly_cax, ly_cf, ly_kd, ly_ln, ↓Bool.cond_decide, cond_true, cond_false, ↓bI_p, ↓bV_p, ↓bL_p, bIJ_s, bVJ_s, bLJ_s, ↓am_let_s, Nat.blt, Nat.ble, Bool.and_true, Bool.true_and, Bool.and_self, Int.cast_ofNat_Int, am_i_add, am_i_sub, am_i_mul, am_ok_i, am_i_cl, n_lt, n_le, n_eq, n_lt0, n_le0, n_0lt, n_0le, n_eq0, ne_eq, ↓reduceIte, not_true_eq_false, not_false_eq_true, and_true, true_and, and_false, false_and, eq_T, eq_F, lt_T, lt_F, le_T, le_F, qn_T, qn_F, and_F, b01_T, b01_F, e_isIn, Int32.toInt_toInt64, am_i_toInt, am_l_toInt, Int.toNat_natCast, Int.reduceToNat, Int.reduceAdd, Int.reduceSub, Int.reduceMul, Int.reduceNeg, Nat.reduceAdd, Nat.reduceMul, Nat.add_zero, Nat.mul_zero, Nat.zero_add, am_zb0, am_zb1, h2, rC hx hc, a1, b1, h10, h9, bn, c1, h34, d1', w4', f1']
        · by_cases q3 : r3.1 = 0
          · rw [if_pos q3, if_pos q6]
            rw [rS_0 q3] at f2
            exact f2
          · rw [if_neg q3]
            rw [rS_n q3] at f2
            exact f2
        · by_cases q3 : r3.1 = 0
          · rw [if_pos q3, if_pos q6] at e
            exact absurd e (by show ¬ ((5 : Nat) = 0); decide)
          · rw [if_neg q3] at e
            exact absurd e q3
      · have q6' : x0.sc.length < 6 := by omega
        obtain ⟨K9, hK9⟩ : ∃ K9, K9 = am_up (am_up I4 (c + 5) (11 * b + 5 + x0.sc.length) (am_i v)) (c + 4) b (am_i (x0.sc.length + 1 : Nat)) := ⟨_, rfl⟩
        have k9 : ∀ q j, q ≠ 5 → ¬ (q = c + 5 ∧ j = 11 * b + 5 + x0.sc.length) → ¬ (q = c + 4 ∧ j = b) → K9 q j = I q j := fun q j e1 e2 e3 => by rw [hK9, am_up_o e3, am_up_o e2, o4 q j e1]
        have R9 : xR T n r3 K9 := xR_c d4 (fun j => by rw [hK9, am_up_o (by omega), am_up_o (by omega)])
        have u4 : ∀ x, am_up I4 (c + 5) (11 * b + 5 + x0.sc.length) x (c + 4) b = am_i x0.sc.length := fun x => by rw [am_up_o (by omega)]; exact w4
        have n5 : ((b : Int) * 11 + 5 + (x0.sc.length : Int)).toNat = 11 * b + 5 + x0.sc.length := by omega
        refine ⟨K9, ?_, ⟨?_, fun e => ?_, ⟨X.sz, by omega, by rw [k9 _ _ (by omega) (by omega) (by omega)]; exact h82⟩, ac, hac, by rw [k9 _ _ (by omega) (by omega) (by omega)]; exact h83⟩, fun q j e => k9 q j (by omega) (by omega) (by omega)⟩
        · rw [sg_X10_readScore_0]
          simp (disch := first | assumption | omega) only [rX hx, ly_csx, ly_cax, ly_cf, ly_kd, ly_ln, ↓Bool.cond_decide, cond_true, cond_false, ↓bI_p, ↓bV_p, ↓bL_p, bIJ_s, bVJ_s, bLJ_s, ↓am_let_s, Nat.blt, Nat.ble, Bool.and_true, Bool.true_and, Bool.and_self, Int.cast_ofNat_Int, am_i_add, am_i_sub, am_i_mul, am_ok_i, am_i_cl, n_lt, n_le, n_eq, n_lt0, n_le0, n_0lt, n_0le, n_eq0, ne_eq, ↓reduceIte, not_true_eq_false, not_false_eq_true, and_true, true_and, and_false, false_and, eq_T, eq_F, lt_T, lt_F, le_T, le_F, qn_T, qn_F, and_F, b01_T, b01_F, e_isIn, Int32.toInt_toInt64, am_i_toInt, am_l_toInt, Int.toNat_natCast, Int.reduceToNat, Int.reduceAdd, Int.reduceSub, Int.reduceMul, Int.reduceNeg, Nat.reduceAdd, Nat.reduceMul, Nat.add_zero, Nat.mul_zero, Nat.zero_add, am_zb0, am_zb1, h2, rC hx hc, rCa hc, a1, b1, h10, h9, bn, c1, h34, d1', w4, n5, u4, am_i_s, ← hK9]
        · by_cases q3 : r3.1 = 0
          · rw [if_pos q3, if_neg q6]
            have : ((0 : Nat), r3.2) = r3 := Prod.ext q3.symm rfl
            show xR T n (0, r3.2) K9
            rw [this]; exact R9
          · rw [if_neg q3]
            exact R9
        · by_cases q3 : r3.1 = 0
          · rw [if_pos q3, if_neg q6]
            refine xCh_score hc hX (fun x hx => (hO.2.1 x hx).2.2.2.1) hx0 q6' ?_ ?_ k9
            · rw [hK9, am_up_o (by omega), am_up_e, d2 q3]
            · rw [hK9, am_up_e]
          · rw [if_neg q3] at e
            exact absurd e q3
  · have x3 := b3 q1
    have f10 := x3.2.1
    have f10' : (I2 5 10 = 0) = False := eq_false (by rw [f10]; exact i5_n q1 (by omega))
    have ff := fun d => x_flF (d := d) (J := J) (R := R) (u := am_i 3) (v := I2 5 4) f10 q1 (by omega)
    have ed : sdScore T n X p = ((aM T n (tE T n p)).1, (aM T n (tE T n p)).2, X) := by unfold sdScore; rw [sI_n q1]
    rw [ed]
    obtain ⟨g1, g2, g3⟩ := fin I2 (fun q j e => by rw [b4 q j e, a3 q j e])
    refine ⟨I2, ?_, ⟨⟨fun e => absurd e q1, fun _ => ⟨x3, by show (aM T n (tE T n p)).1 ≤ 9; omega⟩⟩, fun e => absurd e q1, g1, g2⟩, g3⟩
    rw [sg_X10_readScore_0]
    simp (disch := first | assumption | omega) only [rX hx, ly_csx, ly_cax, ly_cf, ly_kd, ly_ln, ↓Bool.cond_decide, cond_true, cond_false, ↓bI_p, ↓bV_p, ↓bL_p, bIJ_s, bVJ_s, bLJ_s, ↓am_let_s, Nat.blt, Nat.ble, Bool.and_true, Bool.true_and, Bool.and_self, Int.cast_ofNat_Int, am_i_add, am_i_sub, am_i_mul, am_ok_i, am_i_cl, n_lt, n_le, n_eq, n_lt0, n_le0, n_0lt, n_0le, n_eq0, ne_eq, ↓reduceIte, not_true_eq_false, not_false_eq_true, and_true, true_and, and_false, false_and, eq_T, eq_F, lt_T, lt_F, le_T, le_F, qn_T, qn_F, and_F, b01_T, b01_F, e_isIn, Int32.toInt_toInt64, am_i_toInt, am_l_toInt, Int.toNat_natCast, Int.reduceToNat, Int.reduceAdd, Int.reduceSub, Int.reduceMul, Int.reduceNeg, Nat.reduceAdd, Nat.reduceMul, Nat.add_zero, Nat.mul_zero, Nat.zero_add, am_zb0, am_zb1, h2, rC hx hc, a1, b1, f10', ff]
end XSC
