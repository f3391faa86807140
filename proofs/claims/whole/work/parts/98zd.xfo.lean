/-! ===== statements: the class; formulas, wind, squall, any statement ===== -/
section XFO
variable {d : Nat} {J : tJ} {R : tR} {T : Nat → Nat} {n p i c : Nat} {I I' : tI} {X : sSt} {r : Nat × Nat}
theorem x_told (hx : st_Rx R) (hc : c = 10 ∨ c = 20) (hX : xCh c X I) (hO : sOK n p i X) (hn : n ≤ 1600) {f : Nat} (hf : f < 3) : am_E (d + 1) 5 0 [(0, .ref c), (1, .int (am_i f))] [] (I, J, R, 138) = some (some (.int (b01 ((X.fo f).isSome = true))), (I, J, R, 138)) := by
  have sz := hO.1.2.2.2.2.2.2.2
  obtain ⟨h1, h2⟩ := hX.2.2.2.2.2.1 f hf
  rw [sg_X1_isTold_0]
  cases hq : X.fo f with
  | none =>
    obtain ⟨a1, a2⟩ := h1 hq
    rw [b01_f (by simp)]
    simp (disch := first | assumption | omega) only [rX hx, ly_csx, ly_cax, ly_cf, ly_kd, ly_ln, ↓Bool.cond_decide, cond_true, cond_false, ↓bI_p, ↓bV_p, ↓bL_p, bIJ_s, bVJ_s, bLJ_s, ↓am_let_s, Nat.blt, Nat.ble, Bool.and_true, Bool.true_and, Bool.and_self, Int.cast_ofNat_Int, am_i_add, am_i_sub, am_i_mul, am_ok_i, am_i_cl, n_lt, n_le, n_eq, n_lt0, n_le0, n_0lt, n_0le, n_eq0, ne_eq, ↓reduceIte, not_true_eq_false, not_false_eq_true, and_true, true_and, and_false, false_and, eq_T, eq_F, lt_T, lt_F, le_T, le_F, qn_T, qn_F, and_F, b01_T, b01_F, e_isIn, Int32.toInt_toInt64, am_i_toInt, am_l_toInt, Int.toNat_natCast, Int.reduceToNat, Int.reduceAdd, Int.reduceSub, Int.reduceMul, Int.reduceNeg, Nat.reduceAdd, Nat.reduceMul, Nat.add_zero, Nat.mul_zero, Nat.zero_add, am_zb0, am_zb1, rC hx hc, a1, a2]
  | some al =>
    obtain ⟨a, l⟩ := al
    obtain ⟨a1, a2, -⟩ := h2 a l hq
    obtain ⟨c1, c2, -⟩ := hO.2.2.2.2.2 f a l hq
    rw [b01_t (by rfl)]
    simp (disch := first | assumption | omega) only [rX hx, ly_csx, ly_cax, ly_cf, ly_kd, ly_ln, ↓Bool.cond_decide, cond_true, cond_false, ↓bI_p, ↓bV_p, ↓bL_p, bIJ_s, bVJ_s, bLJ_s, ↓am_let_s, Nat.blt, Nat.ble, Bool.and_true, Bool.true_and, Bool.and_self, Int.cast_ofNat_Int, am_i_add, am_i_sub, am_i_mul, am_ok_i, am_i_cl, n_lt, n_le, n_eq, n_lt0, n_le0, n_0lt, n_0le, n_eq0, ne_eq, ↓reduceIte, not_true_eq_false, not_false_eq_true, and_true, true_and, and_false, false_and, eq_T, eq_F, lt_T, lt_F, le_T, le_F, qn_T, qn_F, and_F, b01_T, b01_F, e_isIn, Int32.toInt_toInt64, am_i_toInt, am_l_toInt, Int.toNat_natCast, Int.reduceToNat, Int.reduceAdd, Int.reduceSub, Int.reduceMul, Int.reduceNeg, Nat.reduceAdd, Nat.reduceMul, Nat.add_zero, Nat.mul_zero, Nat.zero_add, am_zb0, am_zb1, rC hx hc, a1, a2]
theorem xCh_form {f : Nat} {l : List tok} (hc : c = 10 ∨ c = 20) (h : xCh c X I) (hsz : ∀ f a l, X.fo f = some (a, l) → a + l.length ≤ X.sz) (hf : f < 3) (e1 : I' (c + 8) f = am_i X.sz) (e2 : I' (c + 9) f = am_i (X.sz + l.length : Nat)) (e3 : I' 8 2 = am_i (X.sz + l.length : Nat)) (e4 : ∀ k t, l[k]? = some t → I' 9 (X.sz + k) = am_i (encX t)) (e5 : ∀ k, k < X.sz → I' 9 k = I 9 k) (e : ∀ q j, q ≠ 5 → q ≠ 8 → q ≠ 9 → ¬ (q = c + 8 ∧ j = f) → ¬ (q = c + 9 ∧ j = f) → I' q j = I q j) : xCh c (X.la, X.wd, X.sq, X.nw, X.sz + l.length, X.bn, X.rd, X.wf, fun g => if g = f then some (X.sz, l) else X.fo g) I' := by
  obtain ⟨⟨a0, a1, a2, a3, a4, a5⟩, hbn, ⟨hz, hz2⟩, hr, hw, hf0, h8⟩ := h
  have g : ∀ k j, k ≤ 6 → I' (c + k) j = I (c + k) j := fun k j hk => e _ _ (by omega) (by omega) (by omega) (by omega) (by omega)
  have g0 : ∀ j, I' c j = I c j := fun j => e _ _ (by omega) (by omega) (by omega) (by omega) (by omega)
  refine ⟨⟨by rw [g0]; exact a0, by rw [g0]; exact a1, by rw [g0]; exact a2, by rw [g0]; exact a3, by rw [g0]; exact a4, by rw [g0]; exact a5⟩, fun b x hx => ?_, ⟨fun b h1 h2 => by rw [g _ _ (by omega)]; exact hz b h1 h2, fun b hb => by rw [g _ _ (by omega), g _ _ (by omega)]; exact hz2 b hb⟩, fun r y hy => ?_, fun m hm => by rw [g _ _ (by omega)]; exact hw m hm, fun g' hg3 => ⟨fun q => ?_, fun a l' q => ?_⟩, e3⟩
  · obtain ⟨b1, b2, b3, b4, b5, b6⟩ := hbn b x hx
    exact ⟨by rw [g _ _ (by omega)]; exact b1, by rw [g _ _ (by omega)]; exact b2, by rw [g _ _ (by omega)]; exact b3, by rw [g _ _ (by omega)]; exact b4, by rw [g _ _ (by omega)]; exact b5, fun k v hv => by rw [g _ _ (by omega)]; exact b6 k v hv⟩
  · rw [g _ _ (by omega), g _ _ (by omega)]
    exact hr r y hy
  · have q' : (if g' = f then some (X.sz, l) else X.fo g') = none := q
    by_cases z : g' = f
    · rw [if_pos z] at q'; cases q'
    · rw [if_neg z] at q'
      rw [e _ _ (by omega) (by omega) (by omega) (by omega) (by omega), e _ _ (by omega) (by omega) (by omega) (by omega) (by omega)]
      exact (hf0 g' hg3).1 q'
  · have q' : (if g' = f then some (X.sz, l) else X.fo g') = some (a, l') := q
    by_cases z : g' = f
    · rw [if_pos z] at q'
      have q2 := Option.some.inj q'
      injection q2 with q3 q4
      subst q3; subst q4; subst z
      exact ⟨e1, e2, e4⟩
    · rw [if_neg z] at q'
      obtain ⟨c1, c2, c3⟩ := (hf0 g' hg3).2 a l' q'
      have hs := hsz g' a l' q'
      exact ⟨by rw [e _ _ (by omega) (by omega) (by omega) (by omega) (by omega)]; exact c1, by rw [e _ _ (by omega) (by omega) (by omega) (by omega) (by omega)]; exact c2, fun k t ht => by
        have z : k < l'.length := (List.getElem?_eq_some_iff.mp ht).1
        rw [e5 _ (by omega)]; exact c3 k t ht⟩
theorem x_form (hx : st_Rx R) (h : xB T n c p i X I R) {f : Nat} (hf : f < 3) (hw : 0 ≤ tW T n p) : ∃ I', am_E (d + 77) 98 0 [(0, .ref 30), (1, .int (am_i f))] [] (I, J, R, 138) = some (none, (I', J, R, 138)) ∧ xQ T n c (sdForm T n f X p) I' ∧ xF c I I' := by
  obtain ⟨n16, hT, hS, h11, hX, hO, ⟨ac, hac, h83⟩, h2, hc⟩ := h
  have hp : p ≤ n := hO.1.2.2.2.2.2.2.2.2
  have h82 := hX.2.2.2.2.2.2
  have sz := hO.1.2.2.2.2.2.2.2.1
  have r0 : xR T n (0, p) I := ⟨fun _ => ⟨hS, hp, h11⟩, fun e => absurd rfl e⟩
  have td := fun d => x_told (d := d) (J := J) hx hc hX hO n16 hf
  have te := tE_s (T := T) (n := n) (p := p) hp (tW_0 hw)
  by_cases q : (X.fo f).isSome = true
  · have h4 := hS.2.2.1
    obtain ⟨I1, a1, a2, a3⟩ := x_rF (J := J) (R := R) (e := 5) (pl := tAt T n p) (v := am_i (tAt T n p)) r0 (fun _ => rfl) (by decide) (by decide)
    have a1' : ∀ d, am_E (d + 1) 71 0 [(0, .ref 5), (1, .int (am_i 5)), (2, .int (am_i (tAt T n p)))] [] (I, J, R, 138) = some (none, (I1, J, R, 138)) := a1
    have ed : sdForm T n f X p = (5, tAt T n p, X) := if_pos q
    rw [ed]
    refine ⟨I1, ?_, ⟨a2, fun e => absurd e (by show ¬ ((5 : Nat) = 0); decide), ⟨X.sz, by omega, by rw [a3 _ _ (by omega)]; exact h82⟩, ac, hac, by rw [a3 _ _ (by omega)]; exact h83⟩, fun q j e => a3 q j (by omega)⟩
    rw [sg_X10_readFormula_0]
    simp (disch := first | assumption | omega) only [rX hx, ly_csx, ly_cax, ly_cf, ly_kd, ly_ln, ↓Bool.cond_decide, cond_true, cond_false, ↓bI_p, ↓bV_p, ↓bL_p, bIJ_s, bVJ_s, bLJ_s, ↓am_let_s, Nat.blt, Nat.ble, Bool.and_true, Bool.true_and, Bool.and_self, Int.cast_ofNat_Int, am_i_add, am_i_sub, am_i_mul, am_ok_i, am_i_cl, n_lt, n_le, n_eq, n_lt0, n_le0, n_0lt, n_0le, n_eq0, ne_eq, ↓reduceIte, not_true_eq_false, not_false_eq_true, and_true, true_and, and_false, false_and, eq_T, eq_F, lt_T, lt_F, le_T, le_F, qn_T, qn_F, and_F, b01_T, b01_F, e_isIn, Int32.toInt_toInt64, am_i_toInt, am_l_toInt, Int.toNat_natCast, Int.reduceToNat, Int.reduceAdd, Int.reduceSub, Int.reduceMul, Int.reduceNeg, Nat.reduceAdd, Nat.reduceMul, Nat.add_zero, Nat.mul_zero, Nat.zero_add, am_zb0, am_zb1, h2, rC hx hc, td, b01_t q, h4, a1']
  · obtain ⟨I1, a1, a2, a3⟩ := x_rX (d := d + 72) (J := J) hx hT r0 (fun _ => tW_4 (T := T) (n := n) (p := p) hw)
    rw [rS_0 rfl] at a2
    obtain ⟨s1, s2, s3⟩ := a2.1 rfl
    have a1' : am_E (d + 76) 73 0 [(0, .ref 5)] [] (I, J, R, 138) = _ := a1
    obtain ⟨K2, hK2⟩ : ∃ K2, K2 = am_up (am_up I1 8 5 (am_i f)) 8 4 (am_i 0) := ⟨_, rfl⟩
    have bg : ∀ d, am_E (d + 1) 15 0 [(0, .ref 8), (1, .int (am_i f))] [] (I1, J, R, 138) = some (none, (K2, J, R, 138)) := fun d => by
      rw [sg_X3_begin_0, hK2]
      simp (disch := first | assumption | omega) only [rX hx, ly_csx, ly_cax, ly_cf, ly_kd, ly_ln, ↓Bool.cond_decide, cond_true, cond_false, ↓bI_p, ↓bV_p, ↓bL_p, bIJ_s, bVJ_s, bLJ_s, ↓am_let_s, Nat.blt, Nat.ble, Bool.and_true, Bool.true_and, Bool.and_self, Int.cast_ofNat_Int, am_i_add, am_i_sub, am_i_mul, am_ok_i, am_i_cl, n_lt, n_le, n_eq, n_lt0, n_le0, n_0lt, n_0le, n_eq0, ne_eq, ↓reduceIte, not_true_eq_false, not_false_eq_true, and_true, true_and, and_false, false_and, eq_T, eq_F, lt_T, lt_F, le_T, le_F, qn_T, qn_F, and_F, b01_T, b01_F, e_isIn, Int32.toInt_toInt64, am_i_toInt, am_l_toInt, Int.toNat_natCast, Int.reduceToNat, Int.reduceAdd, Int.reduceSub, Int.reduceMul, Int.reduceNeg, Nat.reduceAdd, Nat.reduceMul, Nat.add_zero, Nat.mul_zero, Nat.zero_add, am_zb0, am_zb1]
    have k2 : ∀ q j, q ≠ 5 → ¬ (q = 8 ∧ (j = 5 ∨ j = 4)) → K2 q j = I q j := fun q j e1 e2 => by rw [hK2, am_up_o (by omega), am_up_o (by omega), a3 q j e1]
    have k82 : K2 8 2 = am_i X.sz := by rw [k2 _ _ (by omega) (by omega)]; exact h82
    obtain ⟨K3, hK3⟩ : ∃ K3, K3 = am_up K2 (c + 8) f (am_i X.sz) := ⟨_, rfl⟩
    have k3 : ∀ q j, q ≠ 5 → ¬ (q = 8 ∧ (j = 5 ∨ j = 4)) → ¬ (q = c + 8 ∧ j = f) → K3 q j = I q j := fun q j e1 e2 e3 => by rw [hK3, am_up_o e3, k2 q j e1 e2]
    have T3 : txX T n K3 R := txX_c hT (fun q k e => k3 q k (by omega) (by omega) (by omega))
    have R3 : xR T n (0, tE T n p) K3 := xR_c a2 (fun j => by rw [hK3, am_up_o (by omega), hK2, am_up_o (by omega), am_up_o (by omega)])
    obtain ⟨t1, t2, t3⟩ := R3.1 rfl
    have t1' : scX T n (tE T n p) K3 := t1
    have f3 : fS f 0 X.sz ac K3 := ⟨by rw [k3 _ _ (by omega) (by omega) (by omega)]; exact h82, by rw [k3 _ _ (by omega) (by omega) (by omega)]; exact h83, by rw [hK3, am_up_o (by omega), hK2, am_up_e]; rfl, by rw [hK3, am_up_o (by omega), hK2, am_up_o (by omega), am_up_e]⟩
    obtain ⟨md, hmd⟩ : ∃ md, md = if f = 2 then 8 else 3 := ⟨_, rfl⟩
    have md2 : (md = 8 ∧ f = 2) ∨ (md = 3 ∧ f ≠ 2) := by
      by_cases z : f = 2
      · exact Or.inl ⟨by rw [hmd, if_pos z], z⟩
      · exact Or.inr ⟨by rw [hmd, if_neg z], z⟩
    have nR : mdR md = false := by rcases md2 with ⟨rfl, -⟩ | ⟨rfl, -⟩ <;> rfl
    have fu : 10 * (n - tE T n p) + (if mdR md = true then 0 else md) + 1 ≤ sdF n := by rw [nR]; show 10 * (n - tE T n p) + md + 1 ≤ 10 * n + 20; omega
    have dq : 10 * (6 - 0) + mdQ md ≤ d + 76 := by
      rcases md2 with ⟨rfl, -⟩ | ⟨rfl, -⟩
      · show 60 + 15 ≤ d + 76; omega
      · show 60 + 11 ≤ d + 76; omega
    have md9 : md ≤ 9 := by omega
    obtain ⟨I4, b1, b2⟩ := x_G (J := J) (T := T) (n := n) (so := f) hx (by omega) (sdF n) md 0 (tE T n p) (d + 76) X.sz ac 0 K3 md9 (by omega) te.2 fu dq T3 t1' f3 (by omega) hac (by omega)
    have ge := pG_e (T := T) (so := f) (f := sdF n) (md := md) (o := 0) (p := tE T n p) md9 (by omega) te.2 fu
    have red : sdForm T n f X p = (if (pG T n f (sdF n) md 0 (tE T n p)).1 = 0 then (0, (pG T n f (sdF n) md 0 (tE T n p)).2.1, (X.la, X.wd, X.sq, X.nw, X.sz + (pG T n f (sdF n) md 0 (tE T n p)).2.2.length, X.bn, X.rd, X.wf, fun g => if g = f then some (X.sz, (pG T n f (sdF n) md 0 (tE T n p)).2.2) else X.fo g)) else ((pG T n f (sdF n) md 0 (tE T n p)).1, (pG T n f (sdF n) md 0 (tE T n p)).2.1, X)) := by
      unfold sdForm
      rw [if_neg q, ← hmd]
    rw [red]
    obtain ⟨p1, p2, p3⟩ := b2
    generalize pG T n f (sdF n) md 0 (tE T n p) = rr at *
    have frm : ∀ I9 : tI, (∀ q j, ¬ (q = c + 9 ∧ j = f) → I9 q j = I4 q j) → ∀ q j, q ≠ 5 → q ≠ 8 → q ≠ 9 → ¬ (q = c + 8 ∧ j = f) → ¬ (q = c + 9 ∧ j = f) → I9 q j = I q j := fun I9 e q j x1 x2 x3 x4 x5 => by
      rw [e q j x5, p3.2 q j x1 x2 x3, k3 q j x1 (by omega) x4]
    have run : ∀ v, I4 8 2 = v → am_E (d + 77) 98 0 [(0, .ref 30), (1, .int (am_i f))] [] (I, J, R, 138) = some (none, (am_up I4 (c + 9) f v, J, R, 138)) := fun v hv => by
      rw [sg_X10_readFormula_0]
      rcases md2 with ⟨rfl, rfl⟩ | ⟨rfl, f2⟩
      · have b1' : am_E (d + 76) 20 0 [(0, .ref 8)] [] (K3, J, R, 138) = some (none, (I4, J, R, 138)) := b1
        have td' : ∀ d, am_E (d + 1) 5 0 [(0, .ref c), (1, .int (am_i 2))] [] (I, J, R, 138) = some (some (.int (b01 ((X.fo 2).isSome = true))), (I, J, R, 138)) := td
        have bg' : ∀ d, am_E (d + 1) 15 0 [(0, .ref 8), (1, .int (am_i 2))] [] (I1, J, R, 138) = some (none, (K2, J, R, 138)) := bg
        have hK3' : K3 = am_up K2 (c + 8) 2 (am_i X.sz) := hK3
        simp (disch := first | assumption | omega) only [rX hx, ly_csx, ly_cax, ly_cf, ly_kd, ly_ln, ↓Bool.cond_decide, cond_true, cond_false, ↓bI_p, ↓bV_p, ↓bL_p, bIJ_s, bVJ_s, bLJ_s, ↓am_let_s, Nat.blt, Nat.ble, Bool.and_true, Bool.true_and, Bool.and_self, Int.cast_ofNat_Int, am_i_add, am_i_sub, am_i_mul, am_ok_i, am_i_cl, n_lt, n_le, n_eq, n_lt0, n_le0, n_0lt, n_0le, n_eq0, ne_eq, ↓reduceIte, not_true_eq_false, not_false_eq_true, and_true, true_and, and_false, false_and, eq_T, eq_F, lt_T, lt_F, le_T, le_F, qn_T, qn_F, and_F, b01_T, b01_F, e_isIn, Int32.toInt_toInt64, am_i_toInt, am_l_toInt, Int.toNat_natCast, Int.reduceToNat, Int.reduceAdd, Int.reduceSub, Int.reduceMul, Int.reduceNeg, Nat.reduceAdd, Nat.reduceMul, Nat.add_zero, Nat.mul_zero, Nat.zero_add, am_zb0, am_zb1, h2, rC hx hc, rCa hc, Int.cast_ofNat_Int, td', b01_f q, a1', bg', k82, ← hK3', b1', sg_X10_readFormula_80, hv]
      · have b1' : am_E (d + 76) 24 0 [(0, .ref 8)] [] (K3, J, R, 138) = some (none, (I4, J, R, 138)) := b1
        have f2' : ¬ (f : Int) = 2 := by omega
        simp (disch := first | assumption | omega) only [rX hx, ly_csx, ly_cax, ly_cf, ly_kd, ly_ln, ↓Bool.cond_decide, cond_true, cond_false, ↓bI_p, ↓bV_p, ↓bL_p, bIJ_s, bVJ_s, bLJ_s, ↓am_let_s, Nat.blt, Nat.ble, Bool.and_true, Bool.true_and, Bool.and_self, Int.cast_ofNat_Int, am_i_add, am_i_sub, am_i_mul, am_ok_i, am_i_cl, n_lt, n_le, n_eq, n_lt0, n_le0, n_0lt, n_0le, n_eq0, ne_eq, ↓reduceIte, not_true_eq_false, not_false_eq_true, and_true, true_and, and_false, false_and, eq_T, eq_F, lt_T, lt_F, le_T, le_F, qn_T, qn_F, and_F, b01_T, b01_F, e_isIn, Int32.toInt_toInt64, am_i_toInt, am_l_toInt, Int.toNat_natCast, Int.reduceToNat, Int.reduceAdd, Int.reduceSub, Int.reduceMul, Int.reduceNeg, Nat.reduceAdd, Nat.reduceMul, Nat.add_zero, Nat.mul_zero, Nat.zero_add, am_zb0, am_zb1, h2, rC hx hc, rCa hc, td, b01_f q, a1', bg, k82, ← hK3, b1', sg_X10_readFormula_80, hv]
    by_cases q0 : rr.1 = 0
    · obtain ⟨w1, w2, w3, w4, w5, w6, w7⟩ := p1 q0
      obtain ⟨g1, g2, g3⟩ := ge.2 q0
      rw [if_pos q0]
      have o9 : ∀ q j, ¬ (q = c + 9 ∧ j = f) → am_up I4 (c + 9) f (am_i (X.sz + rr.2.2.length : Nat)) q j = I4 q j := fun q j e => am_up_o e
      refine ⟨_, run _ w3, ⟨?_, fun _ => ?_, ⟨X.sz + rr.2.2.length, by omega, by rw [o9 _ _ (by omega)]; exact w3⟩, acS ac rr.2.2, acS_b, by rw [o9 _ _ (by omega)]; exact w4⟩, fun q j e => frm _ o9 q j (by omega) (by omega) (by omega) (by omega) (by omega)⟩
      · refine xR_c (I := I4) ⟨fun _ => ⟨w1, g2, by rw [w2]; exact t3⟩, fun e => absurd rfl e⟩ (fun j => o9 _ _ (by omega))
      · refine xCh_form hc hX (fun f a l e => (hO.2.2.2.2.2 f a l e).1) hf ?_ am_up_e ?_ (fun k t e => ?_) (fun k hk => ?_) (frm _ o9)
        · rw [o9 _ _ (by omega), p3.2 _ _ (by omega) (by omega) (by omega), hK3, am_up_e]
        · rw [o9 _ _ (by omega)]; exact w3
        · rw [o9 _ _ (by omega)]; exact w6 k t e
        · rw [o9 _ _ (by omega), w7 k hk, k3 _ _ (by omega) (by omega) (by omega)]
    · obtain ⟨w1, ⟨s, s16, w3⟩, a, a1', w4⟩ := p2 q0
      rw [if_neg q0]
      have o9 : ∀ q j, ¬ (q = c + 9 ∧ j = f) → am_up I4 (c + 9) f (am_i s) q j = I4 q j := fun q j e => am_up_o e
      refine ⟨_, run _ w3, ⟨?_, fun e => absurd e q0, ⟨s, s16, by rw [o9 _ _ (by omega)]; exact w3⟩, a, a1', by rw [o9 _ _ (by omega)]; exact w4⟩, fun q j e => frm _ o9 q j (by omega) (by omega) (by omega) (by omega) (by omega)⟩
      exact xR_c (I := I4) ⟨fun e => absurd e q0, fun _ => ⟨w1, by show rr.1 ≤ 9; omega⟩⟩ (fun j => o9 _ _ (by omega))
theorem xCh_wind {v : Nat} (h : xCh c X I) (hc : c = 10 ∨ c = 20) (e1 : I' c 4 = am_i v) (e : ∀ q j, q ≠ 5 → ¬ (q = c ∧ j = 4) → I' q j = I q j) : xCh c (X.la, v, X.sq, X.nw, X.sz, X.bn, X.rd, X.wf, X.fo) I' := by
  obtain ⟨⟨a0, a1, a2, a3, a4, a5⟩, hbn, ⟨hz, hz2⟩, hr, hw, hf, h8⟩ := h
  have g : ∀ k j, 1 ≤ k → k ≤ 9 → I' (c + k) j = I (c + k) j := fun k j hk hk2 => e _ _ (by omega) (by omega)
  refine ⟨⟨by rw [e _ _ (by omega) (by omega)]; exact a0, by rw [e _ _ (by omega) (by omega)]; exact a1, by rw [e _ _ (by omega) (by omega)]; exact a2, by rw [e _ _ (by omega) (by omega)]; exact a3, e1, by rw [e _ _ (by omega) (by omega)]; exact a5⟩, fun b x hx => ?_, ⟨fun b h1 h2 => by rw [g _ _ (by omega) (by omega)]; exact hz b h1 h2, fun b hb => by rw [g _ _ (by omega) (by omega), g _ _ (by omega) (by omega)]; exact hz2 b hb⟩, fun r y hy => ?_, fun m hm => by rw [g _ _ (by omega) (by omega)]; exact hw m hm, fun f hf3 => ⟨fun q => ?_, fun a l q => ?_⟩, by rw [e _ _ (by omega) (by omega)]; exact h8⟩
  · obtain ⟨b1, b2, b3, b4, b5, b6⟩ := hbn b x hx
    exact ⟨by rw [g _ _ (by omega) (by omega)]; exact b1, by rw [g _ _ (by omega) (by omega)]; exact b2, by rw [g _ _ (by omega) (by omega)]; exact b3, by rw [g _ _ (by omega) (by omega)]; exact b4, by rw [g _ _ (by omega) (by omega)]; exact b5, fun k v hv => by rw [g _ _ (by omega) (by omega)]; exact b6 k v hv⟩
  · rw [g _ _ (by omega) (by omega), g _ _ (by omega) (by omega)]
    exact hr r y hy
  · rw [g _ _ (by omega) (by omega), g _ _ (by omega) (by omega)]
    exact (hf f hf3).1 q
  · obtain ⟨c1, c2, c3⟩ := (hf f hf3).2 a l q
    exact ⟨by rw [g _ _ (by omega) (by omega)]; exact c1, by rw [g _ _ (by omega) (by omega)]; exact c2, fun k t ht => by rw [e _ _ (by omega) (by omega)]; exact c3 k t ht⟩
theorem xCh_squ {v : Nat} (h : xCh c X I) (hc : c = 10 ∨ c = 20) (e1 : I' c 5 = am_i v) (e : ∀ q j, q ≠ 5 → ¬ (q = c ∧ j = 5) → I' q j = I q j) : xCh c (X.la, X.wd, v, X.nw, X.sz, X.bn, X.rd, X.wf, X.fo) I' := by
  obtain ⟨⟨a0, a1, a2, a3, a4, a5⟩, hbn, ⟨hz, hz2⟩, hr, hw, hf, h8⟩ := h
  have g : ∀ k j, 1 ≤ k → k ≤ 9 → I' (c + k) j = I (c + k) j := fun k j hk hk2 => e _ _ (by omega) (by omega)
  refine ⟨⟨by rw [e _ _ (by omega) (by omega)]; exact a0, by rw [e _ _ (by omega) (by omega)]; exact a1, by rw [e _ _ (by omega) (by omega)]; exact a2, by rw [e _ _ (by omega) (by omega)]; exact a3, by rw [e _ _ (by omega) (by omega)]; exact a4, e1⟩, fun b x hx => ?_, ⟨fun b h1 h2 => by rw [g _ _ (by omega) (by omega)]; exact hz b h1 h2, fun b hb => by rw [g _ _ (by omega) (by omega), g _ _ (by omega) (by omega)]; exact hz2 b hb⟩, fun r y hy => ?_, fun m hm => by rw [g _ _ (by omega) (by omega)]; exact hw m hm, fun f hf3 => ⟨fun q => ?_, fun a l q => ?_⟩, by rw [e _ _ (by omega) (by omega)]; exact h8⟩
  · obtain ⟨b1, b2, b3, b4, b5, b6⟩ := hbn b x hx
    exact ⟨by rw [g _ _ (by omega) (by omega)]; exact b1, by rw [g _ _ (by omega) (by omega)]; exact b2, by rw [g _ _ (by omega) (by omega)]; exact b3, by rw [g _ _ (by omega) (by omega)]; exact b4, by rw [g _ _ (by omega) (by omega)]; exact b5, fun k v hv => by rw [g _ _ (by omega) (by omega)]; exact b6 k v hv⟩
  · rw [g _ _ (by omega) (by omega), g _ _ (by omega) (by omega)]
    exact hr r y hy
  · rw [g _ _ (by omega) (by omega), g _ _ (by omega) (by omega)]
    exact (hf f hf3).1 q
  · obtain ⟨c1, c2, c3⟩ := (hf f hf3).2 a l q
    exact ⟨by rw [g _ _ (by omega) (by omega)]; exact c1, by rw [g _ _ (by omega) (by omega)]; exact c2, fun k t ht => by rw [e _ _ (by omega) (by omega)]; exact c3 k t ht⟩
end XFO
