/-! ===== a fact of the reference ===== -/
def pFa (T : Nat → Nat) (n so f o p : Nat) : pR := if tW T n p = 23 then pT (tE T n p) [(4, 0)] else pB (pG T n so f 3 o p) (fun p1 => if tSg T n p1 = 60 ∨ tSg T n p1 = 62 ∨ tSg T n p1 = 61 then pB (pG T n so f 3 o (tE T n p1)) (fun p2 => pT p2 [(3, (tSg T n p1).toNat)]) else (1, tAt T n p1, []))
section MFACT
variable {d D : Nat} {J : tJ} {R : tR} {T : Nat → Nat} {n so b b' z z' p o f : Nat} {W : List Nat} {C : List Int} {I I' I'' : tI} {was : Int32}
theorem yS_z (h : yS T n so b z p o W C I) (hz : C.length + W.length + 1 + z' ≤ p) : yS T n so b z' p o W C I := by
  obtain ⟨a1, a2, a3, a4, a5, a6⟩ := h
  exact ⟨a1, a2, a3, a4, hz, a6⟩
theorem yS_w {c : Int} (hm : st_Rm R) (h : yS T n so b 1 p o W C I) : ∃ I', (∀ d, am_E (d + 1) 259 0 [(0, .ref 64), (1, .int (am_i c))] [] (I, J, R, 138) = some (none, (I', J, R, 138))) ∧ yS T n so b 0 p o W (C ++ [c]) I' ∧ yN I I' := by
  have h' := h
  obtain ⟨hT, hR, hS, hp, hl0, hnb, hb⟩ := h'
  have n16 := hT.1
  have lc : (C ++ [c]).length = C.length + 1 := by rw [List.length_append]; rfl
  obtain ⟨I1, a1, a2, a3⟩ := e_qCode (J := J) (c := c) hm hS (by omega)
  exact ⟨I1, a1, yS_q (yS_z (z' := 0) h (by omega)) a2 a3 (by omega) hnb hb, yN_q a3⟩
theorem yE_w {c : Int} {e pl : Nat} (hm : st_Rm R) (h : yE T n so b 1 e pl I) : ∃ I', (∀ d, am_E (d + 1) 259 0 [(0, .ref 64), (1, .int (am_i c))] [] (I, J, R, 138) = some (none, (I', J, R, 138))) ∧ yE T n so b 0 e pl I' ∧ yN I I' := by
  obtain ⟨a1, a2, a3, a4, a5, o, W, C, a6, a7⟩ := h
  have n16 := a1.1
  have lc : (C ++ [c]).length = C.length + 1 := by rw [List.length_append]; rfl
  obtain ⟨I1, b1, b2, b3⟩ := e_qCode (J := J) (c := c) hm a6 (by omega)
  exact ⟨I1, b1, ⟨txM_y a1 (yN_q b3), a2, a3, by rw [b3 _ _ (by unfold sqC; omega)]; exact a4, by rw [b3 _ _ (by unfold sqC; omega)]; exact a5, o, W, _, b2, by omega⟩, yN_q b3⟩
theorem e_f63 (hm : st_Rm R) (h : yS T n so b 0 p o W C I) (hW : ∀ w, W.head? = some w → w ≠ 1 ∧ w ≠ 2 ∧ w ≠ 3 ∧ w ≠ 4 ∧ w < 60) (hf : 10 * (n - p) + 3 + 1 ≤ f) {g k : Nat} (hg : tSg T n p = g) (hk : (g = 60 ∧ k = 7) ∨ (g = 62 ∧ k = 8) ∨ (g = 61 ∧ k = 9)) : ∃ I', am_E (d + 9) 273 63 [(0, .ref 64), (1, .int (am_i g))] [] (atP T n p I, J, R, 138) = some (none, (I', J, R, 138)) ∧ ((pG T n so f 3 o (tE T n p)).1 = 0 → yS T n so b 0 (pG T n so f 3 o (tE T n p)).2.1 o W (C ++ List.map encM (pG T n so f 3 o (tE T n p)).2.2 ++ [(k : Int)]) I') ∧ ((pG T n so f 3 o (tE T n p)).1 ≠ 0 → yE T n so b 0 (pG T n so f 3 o (tE T n p)).1 (pG T n so f 3 o (tE T n p)).2.1 I') ∧ yN I I' := by
  have hp := h.2.2.2.1
  have hl := h.2.2.2.2.1
  have tb := tE_sg hg hp
  have n16 := h.1.1
  have ab := tAt_b (T := T) hp
  have gc : g < 256 ∧ ¬ lB g = true ∧ ¬ dB g = true := by rcases hk with ⟨rfl, -⟩ | ⟨rfl, -⟩ | ⟨rfl, -⟩ <;> decide
  obtain ⟨-, t2, t3, t4, -⟩ := ts_t (J := J) hm h gc.1 gc.2.1 gc.2.2 hg
  obtain ⟨I1, a1, a2, a3, a4⟩ := e_sums (d := d) (J := J) hm (yS_z (z' := 1) t2 (by omega)) hW (f := f) (by omega)
  have a2' : atP T n p I 64 2 = am_i (tAt T n p) := atP_2
  have eE : am_i ((tAt T n p : Int) + 1) = am_i (tE T n p) := by rw [t4]; rfl
  have cod : ∃ I2, (∀ d, am_E (d + 1) 259 0 [(0, .ref 64), (1, .int (am_i k))] [] (I1, J, R, 138) = some (none, (I2, J, R, 138))) ∧ ((pG T n so f 3 o (tE T n p)).1 = 0 → yS T n so b 0 (pG T n so f 3 o (tE T n p)).2.1 o W (C ++ List.map encM (pG T n so f 3 o (tE T n p)).2.2 ++ [(k : Int)]) I2) ∧ ((pG T n so f 3 o (tE T n p)).1 ≠ 0 → yE T n so b 0 (pG T n so f 3 o (tE T n p)).1 (pG T n so f 3 o (tE T n p)).2.1 I2) ∧ yN I1 I2 := by
    by_cases q : (pG T n so f 3 o (tE T n p)).1 = 0
    · obtain ⟨I2, b1, b2, b3⟩ := yS_w (J := J) (c := (k : Int)) hm (a2 q)
      exact ⟨I2, b1, fun _ => b2, fun c => absurd q c, b3⟩
    · obtain ⟨I2, b1, b2, b3⟩ := yE_w (J := J) (c := (k : Int)) hm (a3 q)
      exact ⟨I2, b1, fun c => absurd c q, fun _ => b2, b3⟩
  obtain ⟨I2, b1, b2, b3, b4⟩ := cod
  refine ⟨I2, ?_, b2, b3, yN_t t3 (yN_t a4 b4)⟩
  rw [sg_X12_qFact_63]
  rcases hk with ⟨rfl, rfl⟩ | ⟨rfl, rfl⟩ | ⟨rfl, rfl⟩
  · have b1' : ∀ d, am_E (d + 1) 259 0 [(0, .ref 64), (1, .int (am_i 7))] [] (I1, J, R, 138) = some (none, (I2, J, R, 138)) := b1
    simp (disch := first | assumption | omega) only [rM hm, ly_csm, ly_cam, ly_cf, ly_kd, ly_ln, ↓Bool.cond_decide, cond_true, cond_false, ↓bI_p, ↓bV_p, ↓bL_p, bIJ_s, bVJ_s, bLJ_s, ↓am_let_s, Nat.blt, Nat.ble, Bool.and_true, Bool.true_and, Bool.and_self, Int.cast_ofNat_Int, am_i_add, am_i_sub, am_i_mul, am_ok_i, am_i_cl, n_lt, n_le, n_eq, n_lt0, n_le0, n_0lt, n_0le, n_eq0, ne_eq, ↓reduceIte, not_true_eq_false, not_false_eq_true, and_true, true_and, and_false, false_and, eq_T, eq_F, lt_T, lt_F, le_T, le_F, qn_T, qn_F, and_F, b01_T, b01_F, e_isIn, Int32.toInt_toInt64, am_i_toInt, am_l_toInt, Int.toNat_natCast, Int.reduceToNat, Int.reduceAdd, Int.reduceSub, Int.reduceMul, Int.reduceNeg, Nat.reduceAdd, Nat.reduceMul, Nat.add_zero, Nat.mul_zero, Nat.zero_add, am_zb0, am_zb1, a2', eE, a1, b1']
  · have b1' : ∀ d, am_E (d + 1) 259 0 [(0, .ref 64), (1, .int (am_i 8))] [] (I1, J, R, 138) = some (none, (I2, J, R, 138)) := b1
    simp (disch := first | assumption | omega) only [rM hm, ly_csm, ly_cam, ly_cf, ly_kd, ly_ln, ↓Bool.cond_decide, cond_true, cond_false, ↓bI_p, ↓bV_p, ↓bL_p, bIJ_s, bVJ_s, bLJ_s, ↓am_let_s, Nat.blt, Nat.ble, Bool.and_true, Bool.true_and, Bool.and_self, Int.cast_ofNat_Int, am_i_add, am_i_sub, am_i_mul, am_ok_i, am_i_cl, n_lt, n_le, n_eq, n_lt0, n_le0, n_0lt, n_0le, n_eq0, ne_eq, ↓reduceIte, not_true_eq_false, not_false_eq_true, and_true, true_and, and_false, false_and, eq_T, eq_F, lt_T, lt_F, le_T, le_F, qn_T, qn_F, and_F, b01_T, b01_F, e_isIn, Int32.toInt_toInt64, am_i_toInt, am_l_toInt, Int.toNat_natCast, Int.reduceToNat, Int.reduceAdd, Int.reduceSub, Int.reduceMul, Int.reduceNeg, Nat.reduceAdd, Nat.reduceMul, Nat.add_zero, Nat.mul_zero, Nat.zero_add, am_zb0, am_zb1, a2', eE, a1, b1']
  · have b1' : ∀ d, am_E (d + 1) 259 0 [(0, .ref 64), (1, .int (am_i 9))] [] (I1, J, R, 138) = some (none, (I2, J, R, 138)) := b1
    simp (disch := first | assumption | omega) only [rM hm, ly_csm, ly_cam, ly_cf, ly_kd, ly_ln, ↓Bool.cond_decide, cond_true, cond_false, ↓bI_p, ↓bV_p, ↓bL_p, bIJ_s, bVJ_s, bLJ_s, ↓am_let_s, Nat.blt, Nat.ble, Bool.and_true, Bool.true_and, Bool.and_self, Int.cast_ofNat_Int, am_i_add, am_i_sub, am_i_mul, am_ok_i, am_i_cl, n_lt, n_le, n_eq, n_lt0, n_le0, n_0lt, n_0le, n_eq0, ne_eq, ↓reduceIte, not_true_eq_false, not_false_eq_true, and_true, true_and, and_false, false_and, eq_T, eq_F, lt_T, lt_F, le_T, le_F, qn_T, qn_F, and_F, b01_T, b01_F, e_isIn, Int32.toInt_toInt64, am_i_toInt, am_l_toInt, Int.toNat_natCast, Int.reduceToNat, Int.reduceAdd, Int.reduceSub, Int.reduceMul, Int.reduceNeg, Nat.reduceAdd, Nat.reduceMul, Nat.add_zero, Nat.mul_zero, Nat.zero_add, am_zb0, am_zb1, a2', eE, a1, b1']
end MFACT
