/-! ===== a sum of the reference is the grammar's ===== -/
section SUM2
variable {d D : Nat} {J : tJ} {R : tR} {T : Nat → Nat} {n so b b' z p o f : Nat} {W : List Nat} {C : List Int} {I I' I'' : tI} {was : Int32}
theorem sS_b (h : sS so o b W C I) (hb : b' ≤ 1600) : sS so o b' W C (am_up I 64 99 (am_i b')) := by
  obtain ⟨h1, h2, h3, h4, h5, h6, h7, h8, h9, h10, h11⟩ := h
  exact ⟨by rw [am_up_o (by omega)]; exact h1, by rw [am_up_o (by omega)]; exact h2, by rw [am_up_o (by omega)]; exact h3, by rw [am_up_o (by omega)]; exact h4, am_up_e, fun k c hc => by rw [am_up_o (by omega)]; exact h6 k c hc, wtR_c h7 (fun k _ => am_up_o (by omega)), h8, h9, hb, h11⟩
theorem txM_99 {v : Int32} (h : txM T n I) : txM T n (am_up I 64 99 v) := txM_c h (fun q k c => am_up_o (by rcases c with c | c; omega; have := fix_n c; omega))
theorem yS_b (h : yS T n so b z p o W C I) (hb : b' ≤ W.length) : yS T n so b' z p o W C (am_up I 64 99 (am_i b')) := by
  obtain ⟨a1, a2, a3, a4, a5, a6, a7⟩ := h
  have := a1.1
  exact ⟨txM_99 a1, mrX_c a2 (fun k hk => am_up_o (by omega)), sS_b a3 (by omega), a4, a5, a6, hb⟩
theorem yE_b {e pl : Nat} (h : yE T n so b z e pl I) (hb : b' ≤ 1600) : yE T n so b' z e pl (am_up I 64 99 (am_i b')) := by
  obtain ⟨a1, a2, a3, a4, a5, o, W, C, a6, a7⟩ := h
  exact ⟨txM_99 a1, a2, a3, by rw [am_up_o (by omega)]; exact a4, by rw [am_up_o (by omega)]; exact a5, o, W, C, sS_b a6 hb, a7⟩
theorem yN_99 (h99 : I 64 99 = am_i b) {v : Int32} (h : yN (am_up I 64 99 v) I') : yN I (am_up I' 64 99 (am_i b)) := fun q k e => by
  by_cases c : q = 64 ∧ k = 99
  · obtain ⟨rfl, rfl⟩ := c
    rw [am_up_e, h99]
  · rw [am_up_o c, h q k e, am_up_o c]
theorem e_sums (hm : st_Rm R) (h : yS T n so b z p o W C I) (hW : ∀ w, W.head? = some w → w ≠ 1 ∧ w ≠ 2 ∧ w ≠ 3 ∧ w ≠ 4 ∧ w < 60) (hf : 10 * (n - p) + 3 + 1 ≤ f) : ∃ I', am_E (d + 8) 272 0 [(0, .ref 64)] [] (I, J, R, 138) = some (none, (I', J, R, 138)) ∧ ((pG T n so f 3 o p).1 = 0 → yS T n so b z (pG T n so f 3 o p).2.1 o W (C ++ List.map encM (pG T n so f 3 o p).2.2) I') ∧ ((pG T n so f 3 o p).1 ≠ 0 → yE T n so b z (pG T n so f 3 o p).1 (pG T n so f 3 o p).2.1 I') ∧ yN I I' := by
  have h5 := h.2.1.2.1
  have h97 := h.2.2.1.2.2.1
  have h99 := h.2.2.1.2.2.2.2.1
  have hb := h.2.2.2.2.2.2
  have b16 := h.2.2.1.2.2.2.2.2.2.2.2.2.1
  have y0 : yS T n so W.length z p o W C (am_up I 64 99 (am_i W.length)) := yS_b h (Nat.le_refl _)
  have e0 : am_E (d + 8) 272 0 [(0, .ref 64)] [] (I, J, R, 138) = y1 (d + 7) J R (sK (d + 7) (am_i b)) (am_up I 64 99 (am_i W.length)) := by
    rw [← s15 (d := d + 6) hm y0.2.1.2.1, sg_X12_qSums_0]
    simp (disch := first | assumption | omega) only [rM hm, ly_csm, ly_cam, ly_cf, ly_kd, ly_ln, ↓Bool.cond_decide, cond_true, cond_false, ↓bI_p, ↓bV_p, ↓bL_p, bIJ_s, bVJ_s, bLJ_s, ↓am_let_s, Nat.blt, Nat.ble, Bool.and_true, Bool.true_and, Bool.and_self, Int.cast_ofNat_Int, am_i_add, am_i_sub, am_i_mul, am_ok_i, am_i_cl, n_lt, n_le, n_eq, n_lt0, n_le0, n_0lt, n_0le, n_eq0, ne_eq, ↓reduceIte, not_true_eq_false, not_false_eq_true, and_true, true_and, and_false, false_and, eq_T, eq_F, lt_T, lt_F, le_T, le_F, qn_T, qn_F, and_F, b01_T, b01_F, e_isIn, Int32.toInt_toInt64, am_i_toInt, am_l_toInt, Int.toNat_natCast, Int.reduceToNat, Int.reduceAdd, Int.reduceSub, Int.reduceMul, Int.reduceNeg, Nat.reduceAdd, Nat.reduceMul, Nat.add_zero, Nat.mul_zero, Nat.zero_add, am_zb0, am_zb1, h97, h99]
  have A := (y_all (T := T) (n := n) (so := so) (b := W.length) (z := z) hm (D := d + 7) (by omega) (s_yC (d := d + 6) (J := J) (was := am_i b) hm) f).2.2.2.1 o p W C _ hf y0 hW
  by_cases q : (pG T n so f 3 o p).1 = 0
  · obtain ⟨I2, a1, ⟨ops, C', q1, q2, q3, q4⟩, a3⟩ := A.1 q
    have ge := e_gEnd (J := J) hm q3 q4 (brF_n rfl (fun x hx => by have := q1 x hx; omega)) (d + 3)
    obtain ⟨I3, c1, c2, c3⟩ := s_end (J := J) (was := am_i b) hm ops C' _ (op12 q1) (yS_a q3)
    refine ⟨am_up I3 64 99 (am_i b), ?_, fun _ => ?_, fun c => absurd q c, yN_99 h99 (yN_t a3 (yN_t yN_a c3))⟩
    · rw [e0, a1]
      unfold y2
      rw [ge]
      show sK2 (d + 7) (am_i b) (am_i 0) (atP T n _ I2, J, R, 138) = _
      have c1' := c1 (d + 5)
      rw [← c1', ← s48]
      unfold sK2
      simp (disch := first | assumption | omega) only [rM hm, ly_csm, ly_cam, ly_cf, ly_kd, ly_ln, ↓Bool.cond_decide, cond_true, cond_false, ↓bI_p, ↓bV_p, ↓bL_p, bIJ_s, bVJ_s, bLJ_s, ↓am_let_s, Nat.blt, Nat.ble, Bool.and_true, Bool.true_and, Bool.and_self, Int.cast_ofNat_Int, am_i_add, am_i_sub, am_i_mul, am_ok_i, am_i_cl, n_lt, n_le, n_eq, n_lt0, n_le0, n_0lt, n_0le, n_eq0, ne_eq, ↓reduceIte, not_true_eq_false, not_false_eq_true, and_true, true_and, and_false, false_and, eq_T, eq_F, lt_T, lt_F, le_T, le_F, qn_T, qn_F, and_F, b01_T, b01_F, e_isIn, Int32.toInt_toInt64, am_i_toInt, am_l_toInt, Int.toNat_natCast, Int.reduceToNat, Int.reduceAdd, Int.reduceSub, Int.reduceMul, Int.reduceNeg, Nat.reduceAdd, Nat.reduceMul, Nat.add_zero, Nat.mul_zero, Nat.zero_add, am_zb0, am_zb1]
    · rw [q2] at c2
      exact yS_b c2 hb
  · obtain ⟨I2, a1, a2, a3⟩ := A.2 q
    refine ⟨am_up I2 64 99 (am_i b), ?_, fun c => absurd c q, fun _ => yE_b a2 b16, yN_99 h99 a3⟩
    rw [e0, a1]
    exact s_err (d := d + 6) hm a2
end SUM2
