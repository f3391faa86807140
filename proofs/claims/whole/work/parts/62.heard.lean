/-! ===== what is heard ===== -/
/-- the note of the hour k from now -/
def hdS (last : Nat) (wf : Nat → Nat) (fm : Nat → List tok) (u n : Nat) : Nat → bt → Nat
  | 0, x => noS last n x
  | k + 1, x => hdS last wf fm u n k (paS last wf fm u n x)
section HEARD
variable {d : Nat} {J : tJ} {R0 R : tR} {c last wd nb : Nat} {nt wf : Nat → Nat} {fm : Nat → List tok}
theorem x_fill {a n : Nat} {v : Int32} (h1 : Nat.blt a 138 = true) (h2 : Nat.ble 1 (am_kd a).1 = true) (h3 : Nat.ble (am_kd a).1 5 = true) (hl : am_ln R a = n) (hca : ∀ i, am_ca 138 a 1 i = am_ok i n) (hn : n ≤ 10000) (I : tI) : Wp (fun r M => ∃ I', r = none ∧ M = (I', J, R, 138) ∧ (∀ k, k < n → I' a k = v) ∧ ∀ q k, ¬ (q = a ∧ k < n) → I' q k = I q k) (am_E (d + 1) 23 0 [(0, .ref a), (1, .int v)] [] (I, J, R, 138)) := by
  have lp : ∀ (m i : Nat) (I : tI), i + m = n → ∃ I', am_E (d + 1) 23 5 [(0, .ref a), (1, .int v), (2, .int (am_i i)), (3, .int (am_i n))] [] (I, J, R, 138) = some (none, (I', J, R, 138)) ∧ (∀ k, i ≤ k → k < n → I' a k = v) ∧ ∀ q k, ¬ (q = a ∧ i ≤ k ∧ k < n) → I' q k = I q k := by
    intro m
    induction m with
    | zero =>
      intro i I hi
      refine ⟨I, ?_, fun k k1 k2 => absurd k2 (by omega), fun _ _ _ => rfl⟩
      rw [sg_J_fill_5]
      simp (disch := first | assumption | omega) only [am_i_add, am_i_sub, am_i_mul, am_ok_i, am_i_cl, n_lt, n_le, n_eq, n_lt0, n_le0, n_0lt, n_0le, n_eq0, ne_eq, ↓reduceIte, not_true_eq_false, not_false_eq_true, and_true, true_and, and_false, false_and, eq_T, eq_F, lt_T, lt_F, le_T, le_F, qn_T, qn_F, and_F, b01_T, b01_F, e_isIn, Int32.toInt_toInt64, am_i_toInt, am_l_toInt, Int.toNat_natCast, Int.reduceToNat, Int.reduceAdd, Int.reduceSub, Int.reduceMul, Int.reduceNeg, Nat.reduceAdd, Nat.reduceMul, Nat.add_zero, Nat.mul_zero, Nat.zero_add, am_zb0, am_zb1, ↓Bool.cond_decide, cond_true, cond_false, ↓am_let_s, ↓bI_p, bIJ_s, ↓bV_p, bVJ_s, ↓bL_p, bLJ_s, ly_cf, Bool.and_self, Bool.and_true]
    | succ m ih =>
      intro i I hi
      obtain ⟨I', g1, g2, g3⟩ := ih (i + 1) (am_up I a i v) (by omega)
      refine ⟨I', ?_, fun k k1 k2 => ?_, fun q k e => ?_⟩
      · rw [← g1, sg_J_fill_5]
        simp (disch := first | assumption | omega) only [am_i_add, am_i_sub, am_i_mul, am_ok_i, am_i_cl, n_lt, n_le, n_eq, n_lt0, n_le0, n_0lt, n_0le, n_eq0, ne_eq, ↓reduceIte, not_true_eq_false, not_false_eq_true, and_true, true_and, and_false, false_and, eq_T, eq_F, lt_T, lt_F, le_T, le_F, qn_T, qn_F, and_F, b01_T, b01_F, e_isIn, Int32.toInt_toInt64, am_i_toInt, am_l_toInt, Int.toNat_natCast, Int.reduceToNat, Int.reduceAdd, Int.reduceSub, Int.reduceMul, Int.reduceNeg, Nat.reduceAdd, Nat.reduceMul, Nat.add_zero, Nat.mul_zero, Nat.zero_add, am_zb0, am_zb1, ↓Bool.cond_decide, cond_true, cond_false, ↓am_let_s, ↓bI_p, bIJ_s, ↓bV_p, bVJ_s, ↓bL_p, bLJ_s, ly_cf, Bool.and_self, Bool.and_true, hca, am_i_s]
      · by_cases e : k = i
        · subst e
          rw [g3 _ _ (by omega), am_up_e]
        · exact g2 k (by omega) k2
      · rw [g3 q k (by omega), am_up_o (by omega)]
  obtain ⟨I', g1, g2, g3⟩ := lp n 0 I (by omega)
  have g1' : am_E (d + 1) 23 5 [(0, .ref a), (1, .int v), (2, .int (am_i 0)), (3, .int (am_i n))] [] (I, J, R, 138) = some (none, (I', J, R, 138)) := g1
  rw [sg_J_fill_0]
  simp (disch := first | assumption | omega) only [h1, h2, h3, hl, ↓Bool.cond_decide, cond_true, cond_false, ↓am_let_s, ↓bI_p, bIJ_s, ↓bV_p, bVJ_s, ↓bL_p, bLJ_s, ly_cf, Bool.and_self, Bool.and_true, g1']
  exact Wp_r ⟨I', rfl, rfl, fun k hk => g2 k (by omega) hk, fun q k e => g3 q k (by omega)⟩
/-- cells that listening changes -/
def liC (q k : Nat) : Prop := (35 ≤ q ∧ q ≤ 41) ∨ q = 59 ∨ (q = 57 ∧ k = 3)
theorem x_l48 {I0 : tI} {b n H : Nat} (hx : st_Rx R) (hc : c = 10 ∨ c = 20) (hR : R 35 1 = c) (hn : n ≤ 6) (hb : b < 6) (hH : H ≤ 31) (hX : cxX c last wd wf fm I0) : ∀ (m k : Nat) (x : bt) (I : tI), k + m = H → (∀ q k, ¬ liC q k → I q k = I0 q k) → I 57 3 = am_i H → bOK last n x → hullR 35 I n x → ∃ I', am_E (d + 7) 31 48 [(0, .ref 57), (1, .ref 35), (2, .ref c), (3, .ref 31), (4, .int (am_i b)), (5, .int (am_i k))] [] (I, J, R, 138) = am_E (d + 7) 31 28 [(0, .ref 57), (1, .ref 35), (2, .ref c), (3, .ref 31), (4, .int (am_i (b + 1 : Nat)))] [] (I', J, R, 138) ∧ (∀ q k, ¬ liC q k → I' q k = I0 q k) ∧ I' 57 3 = am_i H ∧ (∀ j, j < m → I' 59 (31 * b + k + j) = am_i (hdS last wf fm wd n j x)) ∧ ∀ j, ¬ (31 * b + k ≤ j ∧ j < 31 * b + H) → I' 59 j = I 59 j
  | 0, k, x, I, hk, hI, h3, hO, hHu => by
    refine ⟨I, ?_, hI, h3, fun j hj => absurd hj (by omega), fun _ _ => rfl⟩
    rw [sg_X4_listen_48]
    simp (disch := first | assumption | omega) only [am_i_add, am_i_sub, am_i_mul, am_ok_i, am_i_cl, n_lt, n_le, n_eq, n_lt0, n_le0, n_0lt, n_0le, n_eq0, ne_eq, ↓reduceIte, not_true_eq_false, not_false_eq_true, and_true, true_and, and_false, false_and, eq_T, eq_F, lt_T, lt_F, le_T, le_F, qn_T, qn_F, and_F, b01_T, b01_F, e_isIn, Int32.toInt_toInt64, am_i_toInt, am_l_toInt, Int.toNat_natCast, Int.reduceToNat, Int.reduceAdd, Int.reduceSub, Int.reduceMul, Int.reduceNeg, Nat.reduceAdd, Nat.reduceMul, Nat.add_zero, Nat.mul_zero, Nat.zero_add, am_zb0, am_zb1, ↓Bool.cond_decide, cond_true, cond_false, ↓am_let_s, ↓bI_p, bIJ_s, ↓bV_p, bVJ_s, ↓bL_p, bLJ_s, ly_cf, Bool.and_self, Bool.and_true, h3, am_i_s]
  | m + 1, k, x, I, hk, hI, h3, hO, hHu => by
    have hX1 : cxX c last wd wf fm I := cxX_c hc (fun q k a1 a2 => hI q k (by unfold liC; omega)) hX
    have e4 := hX1.2.2.1
    obtain ⟨_, _, e, I1, rfl, rfl, hf, hH1⟩ := x_pass (d := d) (J := J) hx (Or.inl rfl) hc hR hX1 hn hO hHu hX.2.2.2.1
    have ei : ((b : Int) * 31 + (k : Int)).toNat = 31 * b + k := by omega
    have g1 : ∀ q j, ¬ (35 ≤ q ∧ q ≤ 41) → I1 q j = I q j := fun q j e => hf q j (hS_f.mpr (by omega))
    have hH2 : hullR 35 (am_up I1 59 (31 * b + k) (am_i (noS last n x))) n (paS last wf fm wd n x) := hullR_f hH1 (fun q j a1 a2 => am_up_o (by omega))
    obtain ⟨I', q1, q2, q3, q4, q5⟩ := x_l48 hx hc hR hn hb hH hX m (k + 1) _ (am_up I1 59 (31 * b + k) (am_i (noS last n x))) (by omega) (fun q j e => by rw [am_up_o (fun x => e (Or.inr (Or.inl x.1))), g1 q j (by unfold liC at e; omega), hI q j e]) (by rw [am_up_o (by omega), g1 _ _ (by omega)]; exact h3) (paS_ok hO) hH2
    refine ⟨I', ?_, q2, q3, fun j hj => ?_, fun j hj => ?_⟩
    · rw [← q1, sg_X4_listen_48]
      simp (disch := first | assumption | omega) only [rX hx, ly_csx, ly_cax, ly_cf, ly_kd, ly_ln, ↓Bool.cond_decide, cond_true, cond_false, ↓bI_p, ↓bV_p, ↓bL_p, bIJ_s, bVJ_s, bLJ_s, ↓am_let_s, Nat.blt, Nat.ble, Bool.and_true, Bool.true_and, Bool.and_self, Int.cast_ofNat_Int, am_i_add, am_i_sub, am_i_mul, am_ok_i, am_i_cl, n_lt, n_le, n_eq, n_lt0, n_le0, n_0lt, n_0le, n_eq0, ne_eq, ↓reduceIte, not_true_eq_false, not_false_eq_true, and_true, true_and, and_false, false_and, eq_T, eq_F, lt_T, lt_F, le_T, le_F, qn_T, qn_F, and_F, b01_T, b01_F, e_isIn, Int32.toInt_toInt64, am_i_toInt, am_l_toInt, Int.toNat_natCast, Int.reduceToNat, Int.reduceAdd, Int.reduceSub, Int.reduceMul, Int.reduceNeg, Nat.reduceAdd, Nat.reduceMul, Nat.add_zero, Nat.mul_zero, Nat.zero_add, am_zb0, am_zb1, rC hx hc, h3, e4, e, ei, am_i_s]
    · cases j with
      | zero =>
        rw [q5 _ (by omega), Nat.add_zero, am_up_e]
        rfl
      | succ j =>
        rw [show 31 * b + k + (j + 1) = 31 * b + (k + 1) + j by omega]
        exact q4 j (by omega)
    · rw [q5 j (by omega), am_up_o (by omega), g1 _ _ (by omega)]
theorem x_l28 {I0 : tI} {s : Nat → bt} {H : Nat} (hx0 : st_Rx R0) (hc : c = 10 ∨ c = 20) (h6 : nb ≤ 6) (hH : H ≤ 31) (hX : last ≠ 0 → cxX c last wd wf fm I0) (hl0 : last = 0 → nb = 0) (hI1 : I0 c 1 = am_i nb) (hnt : ∀ b, b < nb → nt b ≤ 6 ∧ I0 (c + 4) b = am_i (nt b)) (hB : ∀ b, b < nb → bOK last (nt b) (s b) ∧ bX (I0 31) (11 * b) (nt b) (s b)) : ∀ (m i : Nat) (I : tI) (R : tR), i + m = nb → rR R0 R → (∀ q k, ¬ liC q k → I q k = I0 q k) → I 57 3 = am_i H → Wp (fun r M => ∃ I' R', r = none ∧ M = (I', J, R', 138) ∧ rR R0 R' ∧ (∀ q k, ¬ liC q k → I' q k = I0 q k) ∧ I' 57 3 = am_i H ∧ (∀ b, i ≤ b → b < nb → ∀ j, j < H → I' 59 (31 * b + j) = am_i (hdS last wf fm wd (nt b) j (s b))) ∧ ∀ j, (∀ b, i ≤ b → b < nb → ¬ (31 * b ≤ j ∧ j < 31 * b + H)) → I' 59 j = I 59 j) (am_E (d + 7) 31 28 [(0, .ref 57), (1, .ref 35), (2, .ref c), (3, .ref 31), (4, .int (am_i i))] [] (I, J, R, 138))
  | 0, i, I, R, hi, hR, hI, h3 => by
    have hxR := rR_x hR hx0
    have e1 : I c 1 = am_i nb := by rw [hI _ _ (by unfold liC; omega)]; exact hI1
    rw [sg_X4_listen_28]
    simp (disch := first | assumption | omega) only [am_i_add, am_i_sub, am_i_mul, am_ok_i, am_i_cl, n_lt, n_le, n_eq, n_lt0, n_le0, n_0lt, n_0le, n_eq0, ne_eq, ↓reduceIte, not_true_eq_false, not_false_eq_true, and_true, true_and, and_false, false_and, eq_T, eq_F, lt_T, lt_F, le_T, le_F, qn_T, qn_F, and_F, b01_T, b01_F, e_isIn, Int32.toInt_toInt64, am_i_toInt, am_l_toInt, Int.toNat_natCast, Int.reduceToNat, Int.reduceAdd, Int.reduceSub, Int.reduceMul, Int.reduceNeg, Nat.reduceAdd, Nat.reduceMul, Nat.add_zero, Nat.mul_zero, Nat.zero_add, am_zb0, am_zb1, ↓Bool.cond_decide, cond_true, cond_false, ↓am_let_s, ↓bI_p, bIJ_s, ↓bV_p, bVJ_s, ↓bL_p, bLJ_s, ly_cf, Bool.and_self, Bool.and_true, rC hxR hc, e1]
    exact Wp_r ⟨I, R, rfl, rfl, hR, hI, h3, fun b b1 b2 => absurd b2 (by omega), fun _ _ => rfl⟩
  | m + 1, i, I, R, hi, hR, hI, h3 => by
    have hib : i < nb := by omega
    have hl : last ≠ 0 := fun e => by have := hl0 e; omega
    have hxR := rR_x hR hx0
    have e1 : I c 1 = am_i nb := by rw [hI _ _ (by unfold liC; omega)]; exact hI1
    obtain ⟨n6, n4⟩ := hnt i hib
    obtain ⟨hO, hBx⟩ := hB i hib
    rw [sg_X4_listen_28]
    simp (disch := first | assumption | omega) only [am_i_add, am_i_sub, am_i_mul, am_ok_i, am_i_cl, n_lt, n_le, n_eq, n_lt0, n_le0, n_0lt, n_0le, n_eq0, ne_eq, ↓reduceIte, not_true_eq_false, not_false_eq_true, and_true, true_and, and_false, false_and, eq_T, eq_F, lt_T, lt_F, le_T, le_F, qn_T, qn_F, and_F, b01_T, b01_F, e_isIn, Int32.toInt_toInt64, am_i_toInt, am_l_toInt, Int.toNat_natCast, Int.reduceToNat, Int.reduceAdd, Int.reduceSub, Int.reduceMul, Int.reduceNeg, Nat.reduceAdd, Nat.reduceMul, Nat.add_zero, Nat.mul_zero, Nat.zero_add, am_zb0, am_zb1, ↓Bool.cond_decide, cond_true, cond_false, ↓am_let_s, ↓bI_p, bIJ_s, ↓bV_p, bVJ_s, ↓bL_p, bLJ_s, ly_cf, Bool.and_self, Bool.and_true, rC hxR hc, e1]
    refine Wp_V (x_load (s := s i) (n := nt i) (b := i) hxR (Or.inl rfl) hc (by omega) (by rw [hI _ _ (by unfold liC; omega)]; exact n4) n6 hO.2.2.2.1 (by
      obtain ⟨v0, v1, v2, v3, v4, v5⟩ := hBx
      exact ⟨by rw [hI _ _ (by unfold liC; omega)]; exact v0, by rw [hI _ _ (by unfold liC; omega)]; exact v1, by rw [hI _ _ (by unfold liC; omega)]; exact v2, by rw [hI _ _ (by unfold liC; omega)]; exact v3, by rw [hI _ _ (by unfold liC; omega)]; exact v4, fun k hk => by rw [hI _ _ (by unfold liC; omega)]; exact v5 k hk⟩)) ?_
    rintro _ _ ⟨I1, rfl, rfl, hf1, hHu⟩
    refine ⟨rfl, ?_⟩
    have hR1 : rR R0 (am_up R 35 1 c) := rR_u hR hc (Or.inl rfl)
    have hx1 := rR_x hR1 hx0
    have g1 : ∀ q j, ¬ (35 ≤ q ∧ q ≤ 41) → I1 q j = I q j := fun q j e => hf1 q j (hS_f.mpr (by omega))
    obtain ⟨I2, q1, q2, q3, q4, q5⟩ := x_l48 (d := d) (J := J) (b := i) (H := H) hx1 hc am_up_e n6 (by omega) hH (hX hl) H 0 (s i) I1 (by omega) (fun q j e => by rw [g1 q j (by unfold liC at e; omega), hI q j e]) (by rw [g1 _ _ (by omega)]; exact h3) hO hHu
    have q1' : am_E (d + 7) 31 48 [(0, .ref 57), (1, .ref 35), (2, .ref c), (3, .ref 31), (4, .int (am_i i)), (5, .int (am_i 0))] [] (I1, J, am_up R 35 1 c, 138) = _ := q1
    refine Wp_e q1' (Wp_m (x_l28 hx0 hc h6 hH hX hl0 hI1 hnt hB m (i + 1) I2 _ (by omega) hR1 q2 q3) ?_)
    rintro _ _ ⟨I', R', rfl, rfl, p1, p2, p3, p4, p5⟩
    refine ⟨I', R', rfl, rfl, p1, p2, p3, fun b b1 b2 j hj => ?_, fun j hj => ?_⟩
    · by_cases e : b = i
      · subst e
        rw [p5 _ (fun b' c1 c2 => by omega)]
        have := q4 j hj
        rw [Nat.add_zero] at this
        exact this
      · exact p4 b (by omega) b2 j hj
    · rw [p5 j (fun b c1 c2 => hj b (by omega) c2), q5 j (by have := hj i (Nat.le_refl _) hib; omega), g1 _ _ (by omega)]
end HEARD
