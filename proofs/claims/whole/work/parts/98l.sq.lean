/-! ===== is a square bracket open ===== -/
section SQ
variable {d : Nat} {J : tJ} {R : tR} {so b o : Nat} {W : List Nat} {C : List Int} {I : tI}
theorem wtR_g : ∀ {W : List Nat}, wtR I W → ∀ k, k < W.length → ∃ w, W[W.length - 1 - k]? = some w ∧ I 135 k = am_i w
  | [], _, k, hk => absurd hk (Nat.not_lt_zero _)
  | w :: W, h, k, hk => by
    have hk' : k < W.length + 1 := hk
    by_cases q : k = W.length
    · subst q
      refine ⟨w, ?_, h.1⟩
      rw [show (w :: W).length - 1 - W.length = 0 by show W.length + 1 - 1 - W.length = 0; omega]
      rfl
    · obtain ⟨x, a1, a2⟩ := wtR_g h.2 k (by omega)
      refine ⟨x, ?_, a2⟩
      rw [show (w :: W).length - 1 - k = (W.length - 1 - k) + 1 by show W.length + 1 - 1 - k = _; omega, List.getElem?_cons_succ]
      exact a1
theorem e_sq2 (hm : st_Rm R) (h : sS so o b W C I) : ∀ (m i : Nat), i + m = W.length → am_E (d + 1) 274 2 [(0, .ref 64), (1, .int (am_i i))] [] (I, J, R, 138) = some (some (.int (b01 (25 ∈ W.take m))), (I, J, R, 138))
  | 0, i, hi => by
    have h97 := h.2.2.1
    have h9 := h.2.2.2.2.2.2.2.2.1
    have e : W.length = i := by omega
    rw [b01_f (by rw [List.take_zero]; exact List.not_mem_nil), sg_X12_qHasSquare_2]
    rw [e] at h97
    simp (disch := first | assumption | omega) only [rM hm, ly_csm, ly_cam, ly_cf, ly_kd, ly_ln, ↓Bool.cond_decide, cond_true, cond_false, ↓bI_p, ↓bV_p, ↓bL_p, bIJ_s, bVJ_s, bLJ_s, ↓am_let_s, Nat.blt, Nat.ble, Bool.and_true, Bool.true_and, Bool.and_self, Int.cast_ofNat_Int, am_i_add, am_i_sub, am_i_mul, am_ok_i, am_i_cl, n_lt, n_le, n_eq, n_lt0, n_le0, n_0lt, n_0le, n_eq0, ne_eq, ↓reduceIte, not_true_eq_false, not_false_eq_true, and_true, true_and, and_false, false_and, eq_T, eq_F, lt_T, lt_F, le_T, le_F, qn_T, qn_F, and_F, b01_T, b01_F, e_isIn, Int32.toInt_toInt64, am_i_toInt, am_l_toInt, Int.toNat_natCast, Int.reduceToNat, Int.reduceAdd, Int.reduceSub, Int.reduceMul, Int.reduceNeg, Nat.reduceAdd, Nat.reduceMul, Nat.add_zero, Nat.mul_zero, Nat.zero_add, am_zb0, am_zb1, h97]
  | m + 1, i, hi => by
    have h97 := h.2.2.1
    have h9 := h.2.2.2.2.2.2.2.2.1
    obtain ⟨w, g1, g2⟩ := wtR_g h.2.2.2.2.2.2.1 i (by omega)
    rw [show W.length - 1 - i = m by omega] at g1
    have w61 := h.2.2.2.2.2.2.2.1 w (List.mem_of_getElem? g1)
    have et : W.take (m + 1) = W.take m ++ [w] := by rw [List.take_succ, g1]; rfl
    rw [sg_X12_qHasSquare_2, et]
    by_cases q : w = 25
    · subst q
      rw [b01_t (List.mem_append.mpr (Or.inr (List.mem_singleton.mpr rfl)))]
      have g2' : I 135 i = am_i 25 := g2
      simp (disch := first | assumption | omega) only [rM hm, ly_csm, ly_cam, ly_cf, ly_kd, ly_ln, ↓Bool.cond_decide, cond_true, cond_false, ↓bI_p, ↓bV_p, ↓bL_p, bIJ_s, bVJ_s, bLJ_s, ↓am_let_s, Nat.blt, Nat.ble, Bool.and_true, Bool.true_and, Bool.and_self, Int.cast_ofNat_Int, am_i_add, am_i_sub, am_i_mul, am_ok_i, am_i_cl, n_lt, n_le, n_eq, n_lt0, n_le0, n_0lt, n_0le, n_eq0, ne_eq, ↓reduceIte, not_true_eq_false, not_false_eq_true, and_true, true_and, and_false, false_and, eq_T, eq_F, lt_T, lt_F, le_T, le_F, qn_T, qn_F, and_F, b01_T, b01_F, e_isIn, Int32.toInt_toInt64, am_i_toInt, am_l_toInt, Int.toNat_natCast, Int.reduceToNat, Int.reduceAdd, Int.reduceSub, Int.reduceMul, Int.reduceNeg, Nat.reduceAdd, Nat.reduceMul, Nat.add_zero, Nat.mul_zero, Nat.zero_add, am_zb0, am_zb1, h97, g2']
    · have ih := e_sq2 hm h m (i + 1) (by omega)
      have eb : (25 ∈ W.take m ++ [w]) ↔ 25 ∈ W.take m := by
        rw [List.mem_append, List.mem_singleton]
        constructor
        · rintro (c | c)
          · exact c
          · exact absurd c.symm q
        · exact Or.inl
      have e01 : b01 (25 ∈ W.take m ++ [w]) = b01 (25 ∈ W.take m) := by
        by_cases c : 25 ∈ W.take m
        · rw [b01_t c, b01_t (eb.mpr c)]
        · rw [b01_f c, b01_f (fun x => c (eb.mp x))]
      rw [e01, ← ih]
      simp (disch := first | assumption | omega) only [rM hm, ly_csm, ly_cam, ly_cf, ly_kd, ly_ln, ↓Bool.cond_decide, cond_true, cond_false, ↓bI_p, ↓bV_p, ↓bL_p, bIJ_s, bVJ_s, bLJ_s, ↓am_let_s, Nat.blt, Nat.ble, Bool.and_true, Bool.true_and, Bool.and_self, Int.cast_ofNat_Int, am_i_add, am_i_sub, am_i_mul, am_ok_i, am_i_cl, n_lt, n_le, n_eq, n_lt0, n_le0, n_0lt, n_0le, n_eq0, ne_eq, ↓reduceIte, not_true_eq_false, not_false_eq_true, and_true, true_and, and_false, false_and, eq_T, eq_F, lt_T, lt_F, le_T, le_F, qn_T, qn_F, and_F, b01_T, b01_F, e_isIn, Int32.toInt_toInt64, am_i_toInt, am_l_toInt, Int.toNat_natCast, Int.reduceToNat, Int.reduceAdd, Int.reduceSub, Int.reduceMul, Int.reduceNeg, Nat.reduceAdd, Nat.reduceMul, Nat.add_zero, Nat.mul_zero, Nat.zero_add, am_zb0, am_zb1, h97, g2, am_i_s]
end SQ
