/-! ===== statements: the reference; formulas ===== -/
section MFO
variable {d : Nat} {J J' : tJ} {R : tR} {T : Nat → Nat} {n p i : Nat} {I I' : tI} {r : Nat × Nat} {X : sSt}
/-- the codes are copied behind those that are there -/
theorem m_c101 (hm : st_Rm R) {f sz : Nat} {C : List Int} (hf : f < 3) (hsz : sz + C.length ≤ 1600) {I0 : tI} (h95 : I0 64 95 = am_i C.length) (hC : ∀ k c, C[k]? = some c → I0 134 k = am_i c) : ∀ (m k : Nat) (I : tI), k + m = C.length → I 64 48 = am_i (sz + k : Nat) → (∀ q j, ¬ (q = 64 ∧ j = 48) → ¬ (q = 102 ∧ sz ≤ j ∧ j < sz + k) → I q j = I0 q j) → (∀ j c, j < k → C[j]? = some c → I 102 (sz + j) = am_i c) → ∃ I', am_E (d + 1) 187 101 [(0, .ref 64), (1, .int (am_i f)), (3, .int (am_i k))] [] (I, J, R, 138) = some (none, (I', J, R, 138)) ∧ I' 64 48 = am_i (sz + C.length : Nat) ∧ I' 101 f = am_i (sz + C.length : Nat) ∧ (∀ j c, C[j]? = some c → I' 102 (sz + j) = am_i c) ∧ ∀ q j, ¬ (q = 64 ∧ j = 48) → ¬ (q = 101 ∧ j = f) → ¬ (q = 102 ∧ sz ≤ j ∧ j < sz + C.length) → I' q j = I0 q j
  | 0, k, I, hk, h48, hI, hD => by
    obtain rfl : k = C.length := by omega
    have e95 : I 64 95 = am_i C.length := by rw [hI _ _ (by omega) (by omega)]; exact h95
    refine ⟨am_up I 101 f (am_i (sz + C.length : Nat)), ?_, by rw [am_up_o (by omega)]; exact h48, am_up_e, fun j c hc => ?_, fun q j e1 e2 e3 => ?_⟩
    · rw [sg_X12_codesTold_101]
      simp (disch := first | assumption | omega) only [rM hm, ly_csm, ly_cam, ly_cf, ly_kd, ly_ln, ↓Bool.cond_decide, cond_true, cond_false, ↓bI_p, ↓bV_p, ↓bL_p, bIJ_s, bVJ_s, bLJ_s, ↓am_let_s, Nat.blt, Nat.ble, Bool.and_true, Bool.true_and, Bool.and_self, Int.cast_ofNat_Int, am_i_add, am_i_sub, am_i_mul, am_ok_i, am_i_cl, n_lt, n_le, n_eq, n_lt0, n_le0, n_0lt, n_0le, n_eq0, ne_eq, ↓reduceIte, not_true_eq_false, not_false_eq_true, and_true, true_and, and_false, false_and, eq_T, eq_F, lt_T, lt_F, le_T, le_F, qn_T, qn_F, and_F, b01_T, b01_F, e_isIn, Int32.toInt_toInt64, am_i_toInt, am_l_toInt, Int.toNat_natCast, Int.reduceToNat, Int.reduceAdd, Int.reduceSub, Int.reduceMul, Int.reduceNeg, Nat.reduceAdd, Nat.reduceMul, Nat.add_zero, Nat.mul_zero, Nat.zero_add, am_zb0, am_zb1, e95, h48]
    · rw [am_up_o (by omega)]
      exact hD j c ((List.getElem?_eq_some_iff.mp hc).1) hc
    · rw [am_up_o e2, hI q j e1 e3]
  | m + 1, k, I, hk, h48, hI, hD => by
    have lt : k < C.length := by omega
    obtain ⟨c, hc⟩ : ∃ c, C[k]? = some c := ⟨_, List.getElem?_eq_getElem lt⟩
    have e95 : I 64 95 = am_i C.length := by rw [hI _ _ (by omega) (by omega)]; exact h95
    have e134 : I 134 k = am_i c := by rw [hI _ _ (by omega) (by omega)]; exact hC k c hc
    have u48 : am_up I 102 (sz + k) (am_i c) 64 48 = am_i (sz + k : Nat) := by rw [am_up_o (by omega)]; exact h48
    obtain ⟨I', r1, r2, r3, r4, r5⟩ := m_c101 hm hf hsz h95 hC m (k + 1) (am_up (am_up I 102 (sz + k) (am_i c)) 64 48 (am_i (sz + k + 1 : Nat))) (by omega) (by rw [am_up_e]; rfl) (fun q j e1 e2 => by rw [am_up_o e1, am_up_o (by omega), hI q j e1 (by omega)]) (fun j c' hj hc' => by
      by_cases z : j = k
      · subst z
        rw [hc] at hc'
        rw [am_up_o (by omega), am_up_e, Option.some.inj hc']
      · rw [am_up_o (by omega), am_up_o (by omega)]
        exact hD j c' (by omega) hc')
    refine ⟨I', ?_, r2, r3, r4, r5⟩
    rw [← r1, sg_X12_codesTold_101]
    simp (disch := first | assumption | omega) only [rM hm, ly_csm, ly_cam, ly_cf, ly_kd, ly_ln, ↓Bool.cond_decide, cond_true, cond_false, ↓bI_p, ↓bV_p, ↓bL_p, bIJ_s, bVJ_s, bLJ_s, ↓am_let_s, Nat.blt, Nat.ble, Bool.and_true, Bool.true_and, Bool.and_self, Int.cast_ofNat_Int, am_i_add, am_i_sub, am_i_mul, am_ok_i, am_i_cl, n_lt, n_le, n_eq, n_lt0, n_le0, n_0lt, n_0le, n_eq0, ne_eq, ↓reduceIte, not_true_eq_false, not_false_eq_true, and_true, true_and, and_false, false_and, eq_T, eq_F, lt_T, lt_F, le_T, le_F, qn_T, qn_F, and_F, b01_T, b01_F, e_isIn, Int32.toInt_toInt64, am_i_toInt, am_l_toInt, Int.toNat_natCast, Int.reduceToNat, Int.reduceAdd, Int.reduceSub, Int.reduceMul, Int.reduceNeg, Nat.reduceAdd, Nat.reduceMul, Nat.add_zero, Nat.mul_zero, Nat.zero_add, am_zb0, am_zb1, e95, e134, h48, u48, am_i_s]
theorem mCh_form {f : Nat} {l : List tok} (h : mCh X I J) (hsz : ∀ f a l, X.fo f = some (a, l) → a + l.length ≤ X.sz) (hf : f < 3) (e1 : I' 100 f = am_i X.sz) (e2 : I' 101 f = am_i (X.sz + l.length : Nat)) (e3 : I' 64 48 = am_i (X.sz + l.length : Nat)) (e4 : ∀ (k : Nat) (t : tok), l[k]? = some t → I' 102 (X.sz + k) = am_i (encM t)) (e : ∀ q j, 93 ≤ q → q ≤ 102 → ¬ (q = 100 ∧ j = f) → ¬ (q = 101 ∧ j = f) → ¬ (q = 102 ∧ X.sz ≤ j ∧ j < X.sz + l.length) → I' q j = I q j) : mCh (X.la, X.wd, X.sq, X.nw, X.sz + l.length, X.bn, X.rd, X.wf, fun g => if g = f then some (X.sz, l) else X.fo g) I' J := by
  obtain ⟨⟨a0, a1, a2, a3, a4, a5⟩, hbn, hr, hw, hf0, h8⟩ := h
  refine ⟨⟨?_, ?_, ?_, ?_, ?_, ?_⟩, fun j x hx => ?_, fun r y hy => ?_, fun k u hk hu => ?_, fun g hg3 => ⟨fun q => ?_, fun a l' q => ?_⟩, e3⟩
  · rw [e _ _ (by omega) (by omega) (by omega) (by omega) (by omega)]; exact a0
  · rw [e _ _ (by omega) (by omega) (by omega) (by omega) (by omega)]; exact a1
  · rw [e _ _ (by omega) (by omega) (by omega) (by omega) (by omega)]; exact a2
  · rw [e _ _ (by omega) (by omega) (by omega) (by omega) (by omega)]; exact a3
  · rw [e _ _ (by omega) (by omega) (by omega) (by omega) (by omega)]; exact a4
  · rw [e _ _ (by omega) (by omega) (by omega) (by omega) (by omega)]; exact a5
  · obtain ⟨b1, b2, b3, b4, b5, b6⟩ := hbn j x hx
    exact ⟨b1, by rw [e _ _ (by omega) (by omega) (by omega) (by omega) (by omega)]; exact b2, by rw [e _ _ (by omega) (by omega) (by omega) (by omega) (by omega)]; exact b3, by rw [e _ _ (by omega) (by omega) (by omega) (by omega) (by omega)]; exact b4, by rw [e _ _ (by omega) (by omega) (by omega) (by omega) (by omega)]; exact b5, fun k w hv => by
        rw [e _ _ (by omega) (by omega) (by omega) (by omega) (by omega)]
        exact b6 k w hv⟩
  · rw [e _ _ (by omega) (by omega) (by omega) (by omega) (by omega)]
    exact hr r y hy
  · rw [e _ _ (by omega) (by omega) (by omega) (by omega) (by omega)]; exact hw k u hk hu
  · have q' : (if g = f then some (X.sz, l) else X.fo g) = none := q
    by_cases z : g = f
    · rw [if_pos z] at q'; cases q'
    · rw [if_neg z] at q'
      rw [e _ _ (by omega) (by omega) (by omega) (by omega) (by omega)]
      exact (hf0 g hg3).1 q'
  · have q' : (if g = f then some (X.sz, l) else X.fo g) = some (a, l') := q
    by_cases z : g = f
    · rw [if_pos z] at q'
      have q2 := Option.some.inj q'
      injection q2 with q3 q4
      subst q3; subst q4; subst z
      exact ⟨e1, e2, e4⟩
    · rw [if_neg z] at q'
      obtain ⟨c1, c2, c3⟩ := (hf0 g hg3).2 a l' q'
      have hs := hsz g a l' q'
      exact ⟨by rw [e _ _ (by omega) (by omega) (by omega) (by omega) (by omega)]; exact c1, by rw [e _ _ (by omega) (by omega) (by omega) (by omega) (by omega)]; exact c2, fun k t ht => by
        have z : k < l'.length := (List.getElem?_eq_some_iff.mp ht).1
        rw [e _ _ (by omega) (by omega) (by omega) (by omega) (by omega)]; exact c3 k t ht⟩
theorem mF_y (h : yN I I') : mF I I' := fun q j e => h q j (by unfold mW at e; unfold yQ mlC sqC; omega)
theorem m_form (hm : st_Rm R) {f : Nat} (hf : f < 3) (hT : txM T n I) (hR : mrX T n (tE T n p) I) (hte : tE T n p ≤ n) (hlt : p < tE T n p) (hX : mCh X I J) (hO : sOK n p i X) : ∃ I', am_E (d + 11) 187 0 [(0, .ref 64), (1, .int (am_i f)), (2, .int (am_i (tAt T n p)))] [] (I, J, R, 138) = some (none, (I', J, R, 138)) ∧ mQ T n (sdForm T n f X p) I' J ∧ mF I I' := by
  have n16 := hT.1
  have sz := hO.1.2.2.2.2.2.2.2
  have r0 := mR_0 hR hte
  have h5 := hR.2.1
  obtain ⟨hn, hs⟩ := hX.2.2.2.2.1 f hf
  by_cases q : (X.fo f).isSome = true
  · obtain ⟨al, hal⟩ := Option.isSome_iff_exists.mp q
    obtain ⟨a, l⟩ := al
    obtain ⟨s1, -, -⟩ := hs a l hal
    obtain ⟨c1, c2, -⟩ := hO.2.2.2.2.2 f a l hal
    have an : ¬ (a : Int) = -1 := by omega
    obtain ⟨I1, a1, a2, a3⟩ := m_rF (J := J) (c := 5) (pl := tAt T n p) hm r0 rfl (by decide) (by decide)
    have a1' : ∀ d, am_E (d + 1) 167 0 [(0, .ref 64), (1, .int (am_i 5)), (2, .int (am_i (tAt T n p)))] [] (I, J, R, 138) = some (none, (I1, J, R, 138)) := a1
    have f5 := mR_5 a2 (by show ¬ ((5 : Nat) = 0); decide)
    have ed : sdForm T n f X p = (5, tAt T n p, X) := if_pos q
    rw [ed]
    refine ⟨I1, ?_, ⟨a2, fun e => absurd e (by show ¬ ((5 : Nat) = 0); decide)⟩, mF_m a3⟩
    rw [sg_X12_codesTold_0]
    simp (disch := first | assumption | omega) only [rM hm, ly_csm, ly_cam, ly_cf, ly_kd, ly_ln, ↓Bool.cond_decide, cond_true, cond_false, ↓bI_p, ↓bV_p, ↓bL_p, bIJ_s, bVJ_s, bLJ_s, ↓am_let_s, Nat.blt, Nat.ble, Bool.and_true, Bool.true_and, Bool.and_self, Int.cast_ofNat_Int, am_i_add, am_i_sub, am_i_mul, am_ok_i, am_i_cl, n_lt, n_le, n_eq, n_lt0, n_le0, n_0lt, n_0le, n_eq0, ne_eq, ↓reduceIte, not_true_eq_false, not_false_eq_true, and_true, true_and, and_false, false_and, eq_T, eq_F, lt_T, lt_F, le_T, le_F, qn_T, qn_F, and_F, b01_T, b01_F, e_isIn, Int32.toInt_toInt64, am_i_toInt, am_l_toInt, Int.toNat_natCast, Int.reduceToNat, Int.reduceAdd, Int.reduceSub, Int.reduceMul, Int.reduceNeg, Nat.reduceAdd, Nat.reduceMul, Nat.add_zero, Nat.mul_zero, Nat.zero_add, am_zb0, am_zb1, h5, s1, a1', sg_X12_codesTold_23, f5]
  · have hno : X.fo f = none := by
      cases hq : X.fo f with
      | none => rfl
      | some al => rw [hq] at q; exact absurd rfl q
    have s1 := hn hno
    obtain ⟨tk, htk⟩ : ∃ tk : Nat, tk = tkS f := ⟨_, rfl⟩
    have tk1 : tk = if f = 2 then 1 else 0 := by rw [htk]; unfold tkS; rw [if_neg (by omega)]
    obtain ⟨K1, hK1⟩ : ∃ K1, K1 = am_up (am_up (am_up (am_up (am_up I 64 51 (am_i tk)) 64 95 (am_i 0)) 64 97 (am_i 0)) 64 98 (am_i 0)) 64 99 (am_i 0) := ⟨_, rfl⟩
    have k1 : ∀ q j, ¬ (q = 64 ∧ (j = 51 ∨ j = 95 ∨ j = 97 ∨ j = 98 ∨ j = 99)) → K1 q j = I q j := fun q j e => by rw [hK1, am_up_o (by omega), am_up_o (by omega), am_up_o (by omega), am_up_o (by omega), am_up_o (by omega)]
    have y1 : yS T n f 0 0 (tE T n p) 0 [] [] K1 := by
      refine ⟨txM_c hT (fun q k e => k1 q k (by
        have : q ≠ 64 := by
          rcases e with e | e
          · omega
          · exact fix_n e
        omega)), mrX_c hR (fun k hk => k1 _ _ (by omega)), ⟨?_, ?_, ?_, ?_, ?_, fun k c e => by simp at e, trivial, fun w hw => absurd hw List.not_mem_nil, by show 0 + 0 ≤ 1600; omega, by omega, by omega⟩, hte, by show 0 + 0 + 1 + 0 ≤ tE T n p; omega, rfl, by omega⟩
      · rw [hK1, am_up_o (by omega), am_up_o (by omega), am_up_o (by omega), am_up_o (by omega), am_up_e, htk]
      · rw [hK1, am_up_o (by omega), am_up_o (by omega), am_up_o (by omega), am_up_e]; rfl
      · rw [hK1, am_up_o (by omega), am_up_o (by omega), am_up_e]; rfl
      · rw [hK1, am_up_o (by omega), am_up_e]; rfl
      · rw [hK1, am_up_e]; rfl
    obtain ⟨md, hmd⟩ : ∃ md, md = if f = 2 then 8 else 3 := ⟨_, rfl⟩
    have md2 : (md = 8 ∧ f = 2) ∨ (md = 3 ∧ f ≠ 2) := by
      by_cases z : f = 2
      · exact Or.inl ⟨by rw [hmd, if_pos z], z⟩
      · exact Or.inr ⟨by rw [hmd, if_neg z], z⟩
    have nR : mdR md = false := by rcases md2 with ⟨rfl, -⟩ | ⟨rfl, -⟩ <;> rfl
    have fu : 10 * (n - tE T n p) + (if mdR md = true then 0 else md) + 1 ≤ sdF n := by rw [nR]; show 10 * (n - tE T n p) + md + 1 ≤ 10 * n + 20; omega
    have ge := pG_e (T := T) (so := f) (f := sdF n) (md := md) (o := 0) (p := tE T n p) (by omega) (by omega) hte fu
    have pars : ∃ I2, am_E (d + 11) 187 0 [(0, .ref 64), (1, .int (am_i f)), (2, .int (am_i (tAt T n p)))] [] (I, J, R, 138) = am_E (d + 11) 187 81 [(0, .ref 64), (1, .int (am_i f))] [] (I2, J, R, 138) ∧ ((pG T n f (sdF n) md 0 (tE T n p)).1 = 0 → yS T n f 0 0 (pG T n f (sdF n) md 0 (tE T n p)).2.1 0 [] (List.map encM (pG T n f (sdF n) md 0 (tE T n p)).2.2) I2) ∧ ((pG T n f (sdF n) md 0 (tE T n p)).1 ≠ 0 → yE T n f 0 0 (pG T n f (sdF n) md 0 (tE T n p)).1 (pG T n f (sdF n) md 0 (tE T n p)).2.1 I2) ∧ yN K1 I2 := by
      rcases md2 with ⟨rfl, rfl⟩ | ⟨rfl, f2⟩
      · obtain ⟨I2, b1, b2, b3, b4⟩ := e_test (d := d) (J := J) (f := sdF n) hm y1 (by show 10 * (n - tE T n p) + 8 + 1 ≤ 10 * n + 20; omega)
        refine ⟨I2, ?_, b2, b3, b4⟩
        have tk1' : tk = 1 := tk1
        subst tk1'
        have s1' : I 100 2 = am_i (-1) := s1
        have hK1' : K1 = am_up (am_up (am_up (am_up (am_up I 64 51 (am_i 1)) 64 95 (am_i 0)) 64 97 (am_i 0)) 64 98 (am_i 0)) 64 99 (am_i 0) := hK1
        conv => lhs; rw [sg_X12_codesTold_0]
        simp (disch := first | assumption | omega) only [rM hm, ly_csm, ly_cam, ly_cf, ly_kd, ly_ln, ↓Bool.cond_decide, cond_true, cond_false, ↓bI_p, ↓bV_p, ↓bL_p, bIJ_s, bVJ_s, bLJ_s, ↓am_let_s, Nat.blt, Nat.ble, Bool.and_true, Bool.true_and, Bool.and_self, Int.cast_ofNat_Int, am_i_add, am_i_sub, am_i_mul, am_ok_i, am_i_cl, n_lt, n_le, n_eq, n_lt0, n_le0, n_0lt, n_0le, n_eq0, ne_eq, ↓reduceIte, not_true_eq_false, not_false_eq_true, and_true, true_and, and_false, false_and, eq_T, eq_F, lt_T, lt_F, le_T, le_F, qn_T, qn_F, and_F, b01_T, b01_F, e_isIn, Int32.toInt_toInt64, am_i_toInt, am_l_toInt, Int.toNat_natCast, Int.reduceToNat, Int.reduceAdd, Int.reduceSub, Int.reduceMul, Int.reduceNeg, Nat.reduceAdd, Nat.reduceMul, Nat.add_zero, Nat.mul_zero, Nat.zero_add, am_zb0, am_zb1, Int.cast_ofNat_Int, h5, s1', sg_X12_codesTold_23, ← hK1', b1]
      · obtain ⟨I2, b1, b2, b3, b4⟩ := e_sums (d := d + 2) (J := J) (f := sdF n) hm y1 (fun w hw => by cases hw) (by show 10 * (n - tE T n p) + 3 + 1 ≤ 10 * n + 20; omega)
        refine ⟨I2, ?_, b2, b3, b4⟩
        have tk1' : tk = 0 := by rw [tk1, if_neg f2]
        subst tk1'
        have b1' : am_E (d + 10) 272 0 [(0, .ref 64)] [] (K1, J, R, 138) = some (none, (I2, J, R, 138)) := b1
        have hK1' : K1 = am_up (am_up (am_up (am_up (am_up I 64 51 (am_i 0)) 64 95 (am_i 0)) 64 97 (am_i 0)) 64 98 (am_i 0)) 64 99 (am_i 0) := hK1
        have f2' : ¬ (f : Int) = 2 := by omega
        conv => lhs; rw [sg_X12_codesTold_0]
        simp (disch := first | assumption | omega) only [rM hm, ly_csm, ly_cam, ly_cf, ly_kd, ly_ln, ↓Bool.cond_decide, cond_true, cond_false, ↓bI_p, ↓bV_p, ↓bL_p, bIJ_s, bVJ_s, bLJ_s, ↓am_let_s, Nat.blt, Nat.ble, Bool.and_true, Bool.true_and, Bool.and_self, Int.cast_ofNat_Int, am_i_add, am_i_sub, am_i_mul, am_ok_i, am_i_cl, n_lt, n_le, n_eq, n_lt0, n_le0, n_0lt, n_0le, n_eq0, ne_eq, ↓reduceIte, not_true_eq_false, not_false_eq_true, and_true, true_and, and_false, false_and, eq_T, eq_F, lt_T, lt_F, le_T, le_F, qn_T, qn_F, and_F, b01_T, b01_F, e_isIn, Int32.toInt_toInt64, am_i_toInt, am_l_toInt, Int.toNat_natCast, Int.reduceToNat, Int.reduceAdd, Int.reduceSub, Int.reduceMul, Int.reduceNeg, Nat.reduceAdd, Nat.reduceMul, Nat.add_zero, Nat.mul_zero, Nat.zero_add, am_zb0, am_zb1, h5, s1, sg_X12_codesTold_23, ← hK1', b1']
    obtain ⟨I2, b1, b2, b3, b4⟩ := pars
    have red : sdForm T n f X p = (if (pG T n f (sdF n) md 0 (tE T n p)).1 = 0 then (0, (pG T n f (sdF n) md 0 (tE T n p)).2.1, (X.la, X.wd, X.sq, X.nw, X.sz + (pG T n f (sdF n) md 0 (tE T n p)).2.2.length, X.bn, X.rd, X.wf, fun g => if g = f then some (X.sz, (pG T n f (sdF n) md 0 (tE T n p)).2.2) else X.fo g)) else ((pG T n f (sdF n) md 0 (tE T n p)).1, (pG T n f (sdF n) md 0 (tE T n p)).2.1, X)) := by
      unfold sdForm
      rw [if_neg q, ← hmd]
    rw [red]
    generalize pG T n f (sdF n) md 0 (tE T n p) = rr at *
    have fr2 : mF I I2 := mF_t (fun q j e => k1 q j (by unfold mW at e; omega)) (mF_y b4)
    have o2 : ∀ q j, q ≠ 64 → q ≠ 134 → q ≠ 135 → I2 q j = I q j := fun q j x1 x2 x3 => by rw [b4 q j (by unfold yQ mlC sqC; omega), k1 q j (by omega)]
    by_cases q0 : rr.1 = 0
    · rw [if_pos q0]
      have y2 := b2 q0
      obtain ⟨g1, g2, g3⟩ := ge.2 q0
      have h52 := y2.2.1.2.1
      have hS := y2.2.2.1
      have e48 : I2 64 48 = am_i X.sz := by rw [b4 _ _ (by unfold yQ mlC sqC; omega), k1 _ _ (by omega)]; exact hX.2.2.2.2.2
      obtain ⟨K3, hK3⟩ : ∃ K3, K3 = am_up I2 100 f (am_i X.sz) := ⟨_, rfl⟩
      have k3 : ∀ q j, ¬ (q = 100 ∧ j = f) → K3 q j = I2 q j := fun q j e => by rw [hK3, am_up_o e]
      have lm : (List.map encM rr.2.2).length = rr.2.2.length := List.length_map _
      obtain ⟨I4, c1, c2, c3, c4, c5⟩ := m_c101 (d := d + 10) (J := J) (f := f) (sz := X.sz) (C := List.map encM rr.2.2) (I0 := K3) hm hf (by rw [lm]; omega) (by rw [k3 _ _ (by omega)]; exact hS.2.1) (fun k c e => by rw [k3 _ _ (by omega)]; exact hS.2.2.2.2.2.1 k c e) (List.map encM rr.2.2).length 0 K3 (by omega) (by rw [k3 _ _ (by omega)]; exact e48) (fun _ _ _ _ => rfl) (fun j c hj => absurd hj (Nat.not_lt_zero _))
      rw [lm] at c2 c3 c5
      have c1' : am_E (d + 11) 187 101 [(0, .ref 64), (1, .int (am_i f)), (3, .int (am_i 0))] [] (K3, J, R, 138) = _ := c1
      refine ⟨I4, ?_, ⟨?_, fun _ => ?_⟩, fun q j e => ?_⟩
      · rw [b1, ← c1', sg_X12_codesTold_81]
        simp (disch := first | assumption | omega) only [rM hm, ly_csm, ly_cam, ly_cf, ly_kd, ly_ln, ↓Bool.cond_decide, cond_true, cond_false, ↓bI_p, ↓bV_p, ↓bL_p, bIJ_s, bVJ_s, bLJ_s, ↓am_let_s, Nat.blt, Nat.ble, Bool.and_true, Bool.true_and, Bool.and_self, Int.cast_ofNat_Int, am_i_add, am_i_sub, am_i_mul, am_ok_i, am_i_cl, n_lt, n_le, n_eq, n_lt0, n_le0, n_0lt, n_0le, n_eq0, ne_eq, ↓reduceIte, not_true_eq_false, not_false_eq_true, and_true, true_and, and_false, false_and, eq_T, eq_F, lt_T, lt_F, le_T, le_F, qn_T, qn_F, and_F, b01_T, b01_F, e_isIn, Int32.toInt_toInt64, am_i_toInt, am_l_toInt, Int.toNat_natCast, Int.reduceToNat, Int.reduceAdd, Int.reduceSub, Int.reduceMul, Int.reduceNeg, Nat.reduceAdd, Nat.reduceMul, Nat.add_zero, Nat.mul_zero, Nat.zero_add, am_zb0, am_zb1, h52, e48, ← hK3]
      · refine mR_c (I := I2) (mR_0 y2.2.1 g2) (fun k hk => ?_)
        rw [c5 _ _ (by omega) (by omega) (by omega), k3 _ _ (by omega)]
      · refine mCh_form hX (fun f a l e => (hO.2.2.2.2.2 f a l e).1) hf ?_ c3 c2 (fun k t ht => c4 k (encM t) (by rw [List.getElem?_map, ht]; rfl)) (fun q j z1 z2 z3 z4 z5 => ?_)
        · rw [c5 _ _ (by omega) (by omega) (by omega), hK3, am_up_e]
        · rw [c5 _ _ (by omega) z4 z5, k3 _ _ z3, o2 q j (by omega) (by omega) (by omega)]
      · have e' := e
        unfold mW at e
        rw [c5 q j (by omega) (by omega) (by omega), k3 q j (by omega), fr2 q j e']
    · rw [if_neg q0]
      have y2 := b3 q0
      have h52 := yE_5 y2
      refine ⟨I2, ?_, ⟨⟨fun e => absurd e q0, fun _ => ⟨y2.2.2.1, y2.2.2.2.1, y2.2.2.2.2.1⟩⟩, fun e => absurd e q0⟩, fr2⟩
      rw [b1, sg_X12_codesTold_81]
      simp (disch := first | assumption | omega) only [rM hm, ly_csm, ly_cam, ly_cf, ly_kd, ly_ln, ↓Bool.cond_decide, cond_true, cond_false, ↓bI_p, ↓bV_p, ↓bL_p, bIJ_s, bVJ_s, bLJ_s, ↓am_let_s, Nat.blt, Nat.ble, Bool.and_true, Bool.true_and, Bool.and_self, Int.cast_ofNat_Int, am_i_add, am_i_sub, am_i_mul, am_ok_i, am_i_cl, n_lt, n_le, n_eq, n_lt0, n_le0, n_0lt, n_0le, n_eq0, ne_eq, ↓reduceIte, not_true_eq_false, not_false_eq_true, and_true, true_and, and_false, false_and, eq_T, eq_F, lt_T, lt_F, le_T, le_F, qn_T, qn_F, and_F, b01_T, b01_F, e_isIn, Int32.toInt_toInt64, am_i_toInt, am_l_toInt, Int.toNat_natCast, Int.reduceToNat, Int.reduceAdd, Int.reduceSub, Int.reduceMul, Int.reduceNeg, Nat.reduceAdd, Nat.reduceMul, Nat.add_zero, Nat.mul_zero, Nat.zero_add, am_zb0, am_zb1, h52]
end MFO
