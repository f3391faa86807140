/-! ===== sound: both ===== -/
section PSN
variable {d : Nat} {J : tJ} {R : tR} {T : Nat → Nat} {n : Nat} {I : tI}
/-- the reference's call as a whole -/
theorem m_sound (hm : st_Rm R) (hT : txM T n I) (h1 : I 64 1 = am_i n) : ∃ I' J', (((sdAll T n).1 = 0 → am_E (d + 13) 189 0 [(0, .ref 64)] [] (I, J, R, 138) = some (some (.int (am_i (sdAll T n).2.1)), (I', J', R, 138)) ∧ mEnd (sdAll T n).2.2 I' J' ∧ I' 64 7 = am_i 0 ∧ I' 64 8 = am_i (-1) ∧ I' 66 1 = I 66 1) ∧ ((sdAll T n).1 ≠ 0 → am_E (d + 13) 189 0 [(0, .ref 64)] [] (I, J, R, 138) = some (some (.int (am_i (-1))), (I', J', R, 138)) ∧ I' 64 7 = am_i (sdAll T n).1 ∧ I' 64 8 = am_i (sdAll T n).2.1 ∧ I' 66 1 = I 66 1 + am_i 1 ∧ (∀ j, 16 ≤ j → J' 95 j = J 95 j) ∧ ∀ q j, ((q = 93 ∨ q = 94 ∨ q = 100 ∨ q = 101) ∧ 3 ≤ j) ∨ (q = 96 ∧ 24 ≤ j) ∨ (q = 98 ∧ 6 ≤ j) ∨ (q = 99 ∧ 488 ≤ j) ∨ (q = 102 ∧ 1600 ≤ j) ∨ q = 103 ∨ (q = 64 ∧ (j = 50 ∨ j = 63 ∨ j = 68)) → I' q j = I q j)) ∧ I' 64 1 = am_i 0 ∧ (∀ q j, ¬ (93 ≤ q ∧ q ≤ 103) → q ≠ 134 → q ≠ 135 → ¬ (q = 66 ∧ j = 1) → ¬ (q = 64 ∧ ¬ (j = 58 ∨ j = 69 ∨ j = 105)) → I' q j = I q j) ∧ ∀ q j, q ≠ 95 → J' q j = J q j := by
  have n16 := hT.1
  obtain ⟨I1, J1, a1, ⟨a2, a3⟩, a4, a5, a6⟩ := m_read (d := d) (J := J) hm hT h1
  obtain ⟨I2, hI2⟩ : ∃ I2, I2 = am_up (am_up I1 64 7 (I1 64 5)) 64 8 (I1 64 6) := ⟨_, rfl⟩
  have o2 : ∀ q k, ¬ (q = 64 ∧ (k = 7 ∨ k = 8)) → I2 q k = I1 q k := fun q k e => by rw [hI2, am_up_o (by omega), am_up_o (by omega)]
  have u6 : am_up I1 64 7 (I1 64 5) 64 6 = I1 64 6 := am_up_o (by omega)
  by_cases q : (sdAll T n).1 = 0
  · obtain ⟨c5, c6, cX, c49⟩ := a2 q
    obtain ⟨w1, w2, p, i, hi, so⟩ := sdAll_ok q
    have x5 : I2 64 5 = am_i 0 := by rw [o2 _ _ (by omega)]; exact c5
    have X2 : mCh (sdAll T n).2.2 I2 J1 := mCh_c cX (fun q j e => o2 q j (by omega)) (fun _ => rfl)
    obtain ⟨I3, J3, b1, b2, b3, b4⟩ := m_stands (d := d + 11) (J := J1) hm X2 so n16
    have b1' : am_E (d + 12) 190 0 [(0, .ref 64)] [] (I2, J1, R, 138) = _ := b1
    have x49 : I3 64 49 = am_i (sdAll T n).2.1 := by rw [b3 _ _ (by omega) (by omega), o2 _ _ (by omega)]; exact c49
    refine ⟨I3, J3, ⟨fun _ => ⟨?_, b2, ?_, ?_, ?_⟩, fun c => absurd q c⟩, ?_, fun q j e1 e2 e3 e4 e5 => ?_, fun q j e => ?_⟩
    · rw [a1, sg_X12_sound_132]
      simp (disch := first | assumption | omega) only [rM hm, ly_csm, ly_cam, ly_cf, ly_kd, ly_ln, ↓Bool.cond_decide, cond_true, cond_false, ↓bI_p, ↓bV_p, ↓bL_p, bIJ_s, bVJ_s, bLJ_s, ↓am_let_s, Nat.blt, Nat.ble, Bool.and_true, Bool.true_and, Bool.and_self, Int.cast_ofNat_Int, am_i_add, am_i_sub, am_i_mul, am_ok_i, am_i_cl, n_lt, n_le, n_eq, n_lt0, n_le0, n_0lt, n_0le, n_eq0, ne_eq, ↓reduceIte, not_true_eq_false, not_false_eq_true, and_true, true_and, and_false, false_and, eq_T, eq_F, lt_T, lt_F, le_T, le_F, qn_T, qn_F, and_F, b01_T, b01_F, e_isIn, Int32.toInt_toInt64, am_i_toInt, am_l_toInt, Int.toNat_natCast, Int.reduceToNat, Int.reduceAdd, Int.reduceSub, Int.reduceMul, Int.reduceNeg, Nat.reduceAdd, Nat.reduceMul, Nat.add_zero, Nat.mul_zero, Nat.zero_add, am_zb0, am_zb1, u6, ← hI2, x5, b1', x49]
    · rw [b3 _ _ (by omega) (by omega), hI2, am_up_o (by omega), am_up_e]; exact c5
    · rw [b3 _ _ (by omega) (by omega), hI2, am_up_e]; exact c6
    · rw [b3 _ _ (by omega) (by omega), o2 _ _ (by omega), a5 _ _ (by unfold mW; omega) (by omega)]
    · rw [b3 _ _ (by omega) (by omega), o2 _ _ (by omega)]; exact a4
    · rw [b3 _ _ e1 (by omega), o2 _ _ (by omega), a5 _ _ (by unfold mW; omega) (by omega)]
    · rw [b4 q j e, a6 q j (by omega)]
  · obtain ⟨c9, c5, c6⟩ := a3 q
    have x5 : (I2 64 5 = 0) = False := eq_false (by rw [o2 _ _ (by omega), c5]; exact i5_n q c9)
    have x66 : I2 66 1 = I 66 1 := by rw [o2 _ _ (by omega), a5 _ _ (by unfold mW; omega) (by omega)]
    refine ⟨am_up I2 66 1 (I 66 1 + am_i 1), J1, ⟨fun c => absurd c q, fun _ => ⟨?_, ?_, ?_, am_up_e, fun j hj => a6 _ _ (by omega), fun q j e => ?_⟩⟩, ?_, fun q j e1 e2 e3 e4 e5 => ?_, fun q j e => a6 q j (by omega)⟩
    · rw [a1, sg_X12_sound_132]
      simp (disch := first | assumption | omega) only [rM hm, ly_csm, ly_cam, ly_cf, ly_kd, ly_ln, ↓Bool.cond_decide, cond_true, cond_false, ↓bI_p, ↓bV_p, ↓bL_p, bIJ_s, bVJ_s, bLJ_s, ↓am_let_s, Nat.blt, Nat.ble, Bool.and_true, Bool.true_and, Bool.and_self, Int.cast_ofNat_Int, am_i_add, am_i_sub, am_i_mul, am_ok_i, am_i_cl, n_lt, n_le, n_eq, n_lt0, n_le0, n_0lt, n_0le, n_eq0, ne_eq, ↓reduceIte, not_true_eq_false, not_false_eq_true, and_true, true_and, and_false, false_and, eq_T, eq_F, lt_T, lt_F, le_T, le_F, qn_T, qn_F, and_F, b01_T, b01_F, e_isIn, Int32.toInt_toInt64, am_i_toInt, am_l_toInt, Int.toNat_natCast, Int.reduceToNat, Int.reduceAdd, Int.reduceSub, Int.reduceMul, Int.reduceNeg, Nat.reduceAdd, Nat.reduceMul, Nat.add_zero, Nat.mul_zero, Nat.zero_add, am_zb0, am_zb1, u6, ← hI2, x5, x66]
    · rw [am_up_o (by omega), hI2, am_up_o (by omega), am_up_e]; exact c5
    · rw [am_up_o (by omega), hI2, am_up_e]; exact c6
    · rw [am_up_o (by omega), o2 _ _ (by omega), a5 _ _ (by unfold mW; omega) (by omega)]
    · rw [am_up_o (by omega), o2 _ _ (by omega)]; exact a4
    · rw [am_up_o e4, o2 _ _ (by omega), a5 _ _ (by unfold mW; omega) (by omega)]
end PSN
section PSN2
variable {L : Nat} {xs : Nat → Int32}
theorem p_sound (d : Nat) : pr_I (vV restW L xs) (d + 80) 102 189 [] := by
  refine pW_I ?_
  intro I J R hV
  have hV0 := hV
  obtain ⟨⟨h1, h2, hx, hm, hmu⟩, ht, hr, hf, hp, hs, hd, hw⟩ := hV
  have hw0 := hw
  obtain ⟨c, last, nb, nr, nw, wd, sq, K, nt, wf, fm, h4, hc, hB, hN, hF, hSt, hA, hX⟩ := hw
  obtain ⟨-, -, -, -, -, -, -, -, -, -, -, -, -, -, -, -, -, -, -, -, -, mT, -, -, -⟩ := hB
  obtain ⟨nA, xA, KfA, -, hxA, -, -, y331, y69, -, -⟩ := hA
  obtain ⟨n, n16, tx, tm, tt⟩ := ht
  obtain ⟨c2, h35, hc2, hcc⟩ : ∃ c2, R 3 5 = c2 ∧ (c2 = 10 ∨ c2 = 20) ∧ (c2 + 10 = c ∨ c + 10 = c2) := by
    rcases hmu.1 with ⟨z1, z2⟩ | ⟨z1, z2⟩
    · exact ⟨20, z2, Or.inr rfl, Or.inr (by rw [← h4, z1])⟩
    · exact ⟨10, z2, Or.inl rfl, Or.inl (by rw [← h4, z1])⟩
  obtain ⟨T, hT⟩ : ∃ T : Nat → Nat, ∀ k, k < n → T k < 256 ∧ I 4 k = am_i (T k) ∧ I 65 k = am_i (T k) := ⟨fun k => (I 4 k).toInt.toNat, fun k hk => by
    obtain ⟨v, v1, v2, v3⟩ := tt k hk
    have : (I 4 k).toInt.toNat = v := by rw [v2, am_i_toInt (by omega) (by omega)]; omega
    show (I 4 k).toInt.toNat < 256 ∧ I 4 k = am_i ((I 4 k).toInt.toNat : Nat) ∧ I 65 k = am_i ((I 4 k).toInt.toNat : Nat)
    rw [this]
    exact ⟨v1, v2, v3⟩⟩
  obtain ⟨I1, a1, a2, a3, a4⟩ := x_start (d := d + 74) (J := J) (T := T) hx n16 (fun k hk => ⟨(hT k hk).1, (hT k hk).2.1⟩) (hX 6 rfl)
  have a1' : am_E (d + 79) 70 0 [(0, .ref 5), (1, .ref 4), (2, .int (am_i n))] [] (I, J, R, 138) = _ := a1
  have hx1 := rx_51 hx
  have T1 : txX T n I1 (am_up R 5 1 4) := ⟨n16, am_up_e, fun k hk => ⟨(hT k hk).1, by rw [a4 _ _ (by omega)]; exact (hT k hk).2.1⟩, by rw [← hX 6 rfl]; exact funext fun k => a4 6 k (by omega)⟩
  obtain ⟨cnt, I2, b1, b9, b2, b3, b4⟩ := x_read (d := d) (J := J) (c := c2) hx1 hc2 T1 a2 a3
  obtain ⟨R2, hR2⟩ : ∃ R2, R2 = am_up (am_up R 5 1 4) 30 2 c2 := ⟨_, rfl⟩
  rw [← hR2] at b1
  have hx2 : st_Rx R2 := by rw [hR2]; exact rx_302 hx1
  have r2 : ∀ q k, ¬ (q = 30 ∧ k = 2) → ¬ (q = 5 ∧ k = 1) → R2 q k = R q k := fun q k e1 e2 => by rw [hR2, am_up_o e1, am_up_o e2]
  have h34' : R2 3 4 = c := by rw [r2 _ _ (by omega) (by omega)]; exact h4
  have h35' : R2 3 5 = c2 := by rw [r2 _ _ (by omega) (by omega)]; exact h35
  have h351 : am_up R 5 1 4 3 5 = c2 := by rw [am_up_o (by omega)]; exact h35
  have o2 : ∀ q j, ¬ (q = 5 ∨ q = 8 ∨ q = 9 ∨ (c2 ≤ q ∧ q ≤ c2 + 9)) → I2 q j = I q j := fun q j e => by rw [b4 q j e, a4 q j (by omega)]
  obtain ⟨I3, hI3⟩ : ∃ I3, I3 = am_up I2 3 1 (am_i 0) := ⟨_, rfl⟩
  have o3 : ∀ q j, ¬ (q = 3 ∧ j = 1) → I3 q j = I2 q j := fun q j e => by rw [hI3, am_up_o e]
  by_cases q : (sdAll T n).1 = 0
  · obtain ⟨e1, e2, e3, e4, e5⟩ := b2 q
    obtain ⟨w1, w2, p', i', hi', so⟩ := sdAll_ok q
    refine ⟨am_i cnt, ?_⟩
    have z10 : I3 5 10 = am_i 0 := by rw [o3 _ _ (by omega)]; exact e2
    obtain ⟨R3, hR3⟩ : ∃ R3, R3 = am_up (am_up R2 3 4 c2) 3 5 c := ⟨_, rfl⟩
    have rp3 : rP R R3 := fun q k y1 y2 y3 => by rw [hR3, am_up_o (by omega), am_up_o (by omega), r2 q k y2 y3]
    have hx3 := rP_x rp3 hx
    have hm3 := rP_m rp3 hm
    have h43 : R3 3 4 = c2 := by rw [hR3, am_up_o (by omega), am_up_e]
    have kd5 : am_kd (c2 + 5) = (1, 66) := by rcases hc2 with rfl | rfl <;> decide
    have ln5 : ∀ R, am_ln R (c2 + 5) = 66 := fun R => by rcases hc2 with rfl | rfl <;> rfl
    have bl5 : Nat.blt (c2 + 5) 138 = true := by rcases hc2 with rfl | rfl <;> decide
    have cy : am_cy 138 (c2 + 5) (am_i 0) 31 (am_i 0) (am_i 66) = true := by rcases hc2 with rfl | rfl <;> decide
    have cy66 : am_cy 138 (c2 + 5) (am_i 0) 31 (am_i 0) (am_i ((66 : Nat) : Int)) = true := cy
    have b132 : Nat.ble c2 132 = true := by rcases hc2 with rfl | rfl <;> decide
    obtain ⟨I4, hI4⟩ : ∃ I4, I4 = am_cp I3 (c2 + 5) 0 31 0 66 := ⟨_, rfl⟩
    obtain ⟨I8, hI8⟩ : ∃ I8, I8 = am_up (am_up (am_up (am_up I4 31 66 (am_i 0)) 31 67 (am_i 0)) 33 2 (am_i 0)) 57 1 (am_i 0) := ⟨_, rfl⟩
    have o8 : ∀ q j, q ≠ 31 → ¬ (q = 33 ∧ j = 2) → ¬ (q = 57 ∧ j = 1) → I8 q j = I3 q j := fun q j y1 y2 y3 => by
      rw [hI8, am_up_o y3, am_up_o y2, am_up_o (by omega), am_up_o (by omega), hI4, am_cp_ap, if_neg y1]
    have v31 : ∀ k, k < 66 → I8 31 k = I2 (c2 + 5) k := fun k hk => by
      rw [hI8, am_up_o (by omega), am_up_o (by omega), am_up_o (by omega), am_up_o (by omega), hI4, am_cp_ap, if_pos rfl]
      unfold va_cpy
      rw [if_pos (by omega), Nat.sub_zero, Nat.zero_add, o3 _ _ (by omega)]
    have fg : ∀ d, am_E (d + 1) 156 0 [(0, .ref 3)] [] (am_up I4 31 66 (am_i 0), J, R3, 138) = some (none, (am_up (am_up (am_up I4 31 66 (am_i 0)) 31 67 (am_i 0)) 33 2 (am_i 0), J, R3, 138)) := fun d => by
      rw [sg_X11_forgetActs_0]
      simp (disch := first | assumption | omega) only [rX hx3, ly_csx, ly_cax, ly_cf, ↓Bool.cond_decide, cond_true, cond_false, ↓am_let_s, am_i_add, am_i_sub, am_i_mul, am_ok_i, am_i_cl, n_lt, n_le, n_eq, n_lt0, n_le0, n_0lt, n_0le, n_eq0, ne_eq, ↓reduceIte, not_true_eq_false, not_false_eq_true, and_true, true_and, and_false, false_and, eq_T, eq_F, lt_T, lt_F, le_T, le_F, qn_T, qn_F, and_F, b01_T, b01_F, e_isIn, Int32.toInt_toInt64, am_i_toInt, am_l_toInt, Int.toNat_natCast, Int.reduceToNat, Int.reduceAdd, Int.reduceSub, Int.reduceMul, Int.reduceNeg, Nat.reduceAdd, Nat.reduceMul, Nat.add_zero, Nat.mul_zero, Nat.zero_add, am_zb0, am_zb1]
    have cl : am_E (d + 80) 102 0 [(0, .ref 3)] [] (I, J, R, 138) = some (some (.int (am_i cnt)), (I8, J, R3, 138)) := by
      rw [sg_X11_sound_0]
      simp (disch := first | assumption | omega) only [rX hx, ly_csx, ly_cax, ly_cf, ly_kd, ly_ln, ↓Bool.cond_decide, cond_true, cond_false, ↓bI_p, ↓bV_p, ↓bL_p, bIJ_s, bVJ_s, bLJ_s, ↓am_let_s, Nat.blt, Nat.ble, Bool.and_true, Bool.true_and, Bool.and_self, Int.cast_ofNat_Int, am_i_add, am_i_sub, am_i_mul, am_ok_i, am_i_cl, n_lt, n_le, n_eq, n_lt0, n_le0, n_0lt, n_0le, n_eq0, ne_eq, ↓reduceIte, not_true_eq_false, not_false_eq_true, and_true, true_and, and_false, false_and, eq_T, eq_F, lt_T, lt_F, le_T, le_F, qn_T, qn_F, and_F, b01_T, b01_F, e_isIn, Int32.toInt_toInt64, am_i_toInt, am_l_toInt, Int.toNat_natCast, Int.reduceToNat, Int.reduceAdd, Int.reduceSub, Int.reduceMul, Int.reduceNeg, Nat.reduceAdd, Nat.reduceMul, Nat.add_zero, Nat.mul_zero, Nat.zero_add, am_zb0, am_zb1, tx, a1']
      simp (disch := first | assumption | omega) only [am_i_add, am_i_sub, am_i_mul, am_ok_i, am_i_cl, n_lt, n_le, n_eq, n_lt0, n_le0, n_0lt, n_0le, n_eq0, ne_eq, ↓reduceIte, not_true_eq_false, not_false_eq_true, and_true, true_and, and_false, false_and, eq_T, eq_F, lt_T, lt_F, le_T, le_F, qn_T, qn_F, and_F, b01_T, b01_F, e_isIn, Int32.toInt_toInt64, am_i_toInt, am_l_toInt, Int.toNat_natCast, Int.reduceToNat, Int.reduceAdd, Int.reduceSub, Int.reduceMul, Int.reduceNeg, Nat.reduceAdd, Nat.reduceMul, Nat.add_zero, Nat.mul_zero, Nat.zero_add, am_zb0, am_zb1, ly_cf, ↓Bool.cond_decide, cond_true, cond_false, ↓bI_p, ↓bV_p, bIJ_s, bVJ_s, ↓am_let_s, rX hx1, h351, b1]
      simp (disch := first | assumption | omega) only [am_i_add, am_i_sub, am_i_mul, am_ok_i, am_i_cl, n_lt, n_le, n_eq, n_lt0, n_le0, n_0lt, n_0le, n_eq0, ne_eq, ↓reduceIte, not_true_eq_false, not_false_eq_true, and_true, true_and, and_false, false_and, eq_T, eq_F, lt_T, lt_F, le_T, le_F, qn_T, qn_F, and_F, b01_T, b01_F, e_isIn, Int32.toInt_toInt64, am_i_toInt, am_l_toInt, Int.toNat_natCast, Int.reduceToNat, Int.reduceAdd, Int.reduceSub, Int.reduceMul, Int.reduceNeg, Nat.reduceAdd, Nat.reduceMul, Nat.add_zero, Nat.mul_zero, Nat.zero_add, am_zb0, am_zb1, ly_cf, ly_cax, ly_csx, ↓Bool.cond_decide, cond_true, cond_false, ↓bI_p, ↓bV_p, bIJ_s, bVJ_s, ↓am_let_s, rX hx2, ← hI3, z10, h35', h34', ← hR3, rX hx3, h43, rC hx3 hc2, kd5, ln5, bl5, Nat.ble, Bool.and_self, Bool.and_true, cy, ← hI4, fg, ← hI8, b132, cy66]
    refine Wp_e cl (Wp_r ⟨I8, J, R3, rfl, rfl, ?_, ?_, ?_⟩)
    · funext k
      rw [o8 1 k (by omega) (by omega) (by omega), o3 _ _ (by omega), o2 1 k (by omega)]
    · rw [rp3 _ _ (by omega) (by omega) (by omega)]
    · have o8' : ∀ q j, q ≠ 31 → ¬ (q = 33 ∧ j = 2) → ¬ (q = 57 ∧ j = 1) → ¬ (q = 3 ∧ j = 1) → ¬ (q = 5 ∨ q = 8 ∨ q = 9 ∨ (c2 ≤ q ∧ q ≤ c2 + 9)) → I8 q j = I q j := fun q j y1 y2 y3 y4 y5 => by rw [o8 q j y1 y2 y3, o3 q j y4, o2 q j y5]
      have T8 : txM T n I8 := ⟨n16, fun k hk => ⟨(hT k hk).1, by rw [o8' _ _ (by omega) (by omega) (by omega) (by omega) (by omega)]; exact (hT k hk).2.2⟩, fun q hq => by
        rw [← hX q hq]
        have : q ≠ 31 ∧ q ≠ 33 ∧ q ≠ 57 ∧ q ≠ 3 ∧ ¬ (q = 5 ∨ q = 8 ∨ q = 9 ∨ (c2 ≤ q ∧ q ≤ c2 + 9)) := by unfold fixd at hq; simp at hq; omega
        exact funext fun k => o8' q k this.1 (by omega) (by omega) (by omega) this.2.2.2.2⟩
      obtain ⟨I9, J9, ⟨g1, -⟩, g2, g3, g4⟩ := m_sound (d := d + 67) (J := J) hm3 T8 (by rw [o8' _ _ (by omega) (by omega) (by omega) (by omega) (by omega)]; exact tm)
      obtain ⟨f1, f2, f3, f4, f5⟩ := g1 q
      have o9 : ∀ q j, ¬ (93 ≤ q ∧ q ≤ 103) → q ≠ 134 → q ≠ 135 → q ≠ 64 → ¬ (q = 66 ∧ j = 1) → I9 q j = I8 q j := fun q j y1 y2 y3 y4 y5 => g3 q j y1 y2 y3 y5 (by omega)
      refine Wp_e f1 (Wp_r ⟨I9, J9, R3, by rw [e1], rfl, ?_⟩)
      have rW : restW I9 J9 R3 := by
        refine restW_N (x := xA) h43 hc2 so hi' (xHd_c e4 (fun q j z => ?_)) (fun f hf3 => ?_) f2 ?_ (fun k hk => ?_) ?_ ?_ ?_ hxA ?_ ?_ (fun q hq => ?_)
        · rw [o9 q j (by omega) (by omega) (by omega) (by omega) (by omega), o8 q j (by omega) (by omega) (by omega), o3 q j (by omega)]
        · obtain ⟨a, y1, y2, y3, y4⟩ := e5 f hf3
          have oc : ∀ k j, k ≤ 9 → I9 (c2 + k) j = I2 (c2 + k) j := fun k j hk => by rw [o9 _ _ (by omega) (by omega) (by omega) (by omega) (by omega), o8 _ _ (by omega) (by omega) (by omega), o3 _ _ (by omega)]
          exact ⟨a, y1, by rw [oc _ _ (by omega)]; exact y2, by rw [oc _ _ (by omega)]; exact y3, fun k t ht => by rw [oc _ _ (by omega)]; exact y4 k t ht⟩
        · rw [g3 _ _ (by omega) (by omega) (by omega) (by omega) (by omega), o8' _ _ (by omega) (by omega) (by omega) (by omega) (by omega)]; exact mT
        · rw [o9 _ _ (by omega) (by omega) (by omega) (by omega) (by omega), v31 k hk, o9 _ _ (by omega) (by omega) (by omega) (by omega) (by omega), o8 _ _ (by omega) (by omega) (by omega), o3 _ _ (by omega)]
        · rw [o9 _ _ (by omega) (by omega) (by omega) (by omega) (by omega), hI8, am_up_o (by omega), am_up_o (by omega), am_up_o (by omega), am_up_e]
        · rw [o9 _ _ (by omega) (by omega) (by omega) (by omega) (by omega), hI8, am_up_o (by omega), am_up_o (by omega), am_up_e]
        · rw [o9 _ _ (by omega) (by omega) (by omega) (by omega) (by omega), hI8, am_up_o (by omega), am_up_e]
        · rw [o9 _ _ (by omega) (by omega) (by omega) (by omega) (by omega), o8' _ _ (by omega) (by omega) (by omega) (by omega) (by omega)]; exact y331
        · rw [g3 _ _ (by omega) (by omega) (by omega) (by omega) (by omega), o8' _ _ (by omega) (by omega) (by omega) (by omega) (by omega)]; exact y69
        · rw [← T8.2.2 q hq]
          have : ¬ (93 ≤ q ∧ q ≤ 103) ∧ q ≠ 134 ∧ q ≠ 135 ∧ q ≠ 64 ∧ q ≠ 66 := by unfold fixd at hq; simp at hq; omega
          exact funext fun k => o9 q k this.1 this.2.1 this.2.2.1 this.2.2.2.1 (by omega)
      have keep : ∀ q j, ¬ (93 ≤ q ∧ q ≤ 103) → q ≠ 134 → q ≠ 135 → q ≠ 64 → q ≠ 31 → q ≠ 33 → ¬ (q = 57 ∧ j = 1) → ¬ (q = 3 ∧ j = 1) → ¬ (q = 66 ∧ j = 1) → ¬ (q = 5 ∨ q = 8 ∨ q = 9 ∨ (c2 ≤ q ∧ q ≤ c2 + 9)) → I9 q j = I q j := fun q j y1 y2 y3 y4 y5 y6 y7 y8 y9 y10 => by rw [o9 q j y1 y2 y3 y4 y9, o8' q j y5 (by omega) y7 y8 y10]
      refine ⟨⟨?_, ?_, hx3, hm3, ?_, ?_, ?_, ?_, ?_⟩, ⟨0, by omega, ?_, g2, fun k hk => absurd hk (Nat.not_lt_zero _)⟩, fun k hk => ?_, ⟨?_, ?_⟩, ?_, ⟨0, by omega, ?_, f2.1.2.2.2.2.2.2.2.2, fun k hk => absurd hk (Nat.not_lt_zero _)⟩, ?_, rW⟩
      · rw [← h1]
        exact funext fun k => keep 1 k (by omega) (by omega) (by omega) (by omega) (by omega) (by omega) (by omega) (by omega) (by omega) (by omega)
      · rw [rp3 _ _ (by omega) (by omega) (by omega)]; exact h2
      · have v45 : R3 3 5 = c := by rw [hR3, am_up_e]
        rw [h43, v45]
        omega
      · rw [hR3, am_up_o (by omega), am_up_o (by omega), hR2, am_up_e]; exact hc2
      · rw [rp3 _ _ (by omega) (by omega) (by omega)]; exact hmu.2.2.1
      · rw [rp3 _ _ (by omega) (by omega) (by omega)]; exact hmu.2.2.2.1
      · left
        rw [hR3, am_up_o (by omega), am_up_o (by omega), hR2, am_up_o (by omega), am_up_e]
      · rw [o9 _ _ (by omega) (by omega) (by omega) (by omega) (by omega), o8 _ _ (by omega) (by omega) (by omega), hI3, am_up_e]; rfl
      · by_cases z : k = 1
        · subst z
          rw [f5, keep 63 _ (by omega) (by omega) (by omega) (by omega) (by omega) (by omega) (by omega) (by omega) (by omega) (by omega), o8' 66 _ (by omega) (by omega) (by omega) (by omega) (by omega)]
          exact hr 1 hk
        · rw [keep 63 _ (by omega) (by omega) (by omega) (by omega) (by omega) (by omega) (by omega) (by omega) (by omega) (by omega), keep 66 _ (by omega) (by omega) (by omega) (by omega) (by omega) (by omega) (by omega) (by omega) (by omega) (by omega)]
          exact hr k hk
      · rw [f3, o9 _ _ (by omega) (by omega) (by omega) (by omega) (by omega), o8 _ _ (by omega) (by omega) (by omega)]; exact z10
      · rw [f4, o9 _ _ (by omega) (by omega) (by omega) (by omega) (by omega), o8 _ _ (by omega) (by omega) (by omega), o3 _ _ (by omega)]; exact e3
      · refine vPic_cg I I9 (fun q j e => ?_) hp
        unfold dPic at e; simp at e
        by_cases z : q = 64
        · subst z
          rw [g3 _ _ (by omega) (by omega) (by omega) (by omega) (by omega), o8' _ _ (by omega) (by omega) (by omega) (by omega) (by omega)]
        · exact keep q j (by omega) (by omega) (by omega) z (by omega) (by omega) (by omega) (by omega) (by omega) (by omega)
      · rw [o9 _ _ (by omega) (by omega) (by omega) (by omega) (by omega), hI8, am_up_e]; rfl
      · obtain ⟨s, s1, s2, s3⟩ := hd
        exact ⟨s, s1, by rw [keep 3 17 (by omega) (by omega) (by omega) (by omega) (by omega) (by omega) (by omega) (by omega) (by omega) (by omega)]; exact s2, by rw [g4 _ _ (by omega)]; exact s3⟩
  · obtain ⟨e2, e3⟩ := b3 q
    refine ⟨am_i (-1), ?_⟩
    have z10 : (I3 5 10 = 0) = False := eq_false (by
      rw [o3 _ _ (by omega), e2]
      intro z
      have z' : am_i ((sdAll T n).1 : Int) = am_i 0 := z
      rw [n_eq (by omega) (by omega) (by omega) (by omega)] at z'
      omega)
    obtain ⟨I4, hI4⟩ : ∃ I4, I4 = am_up I3 63 1 (I3 63 1 + am_i 1) := ⟨_, rfl⟩
    have rf : ∀ d, am_E (d + 1) 155 0 [(0, .ref 3), (1, .int (am_i 1))] [] (I3, J, R2, 138) = some (some (.int (am_i 0)), (I4, J, R2, 138)) := fun d => by rw [hI4]; exact e_refuse d 1 (by decide) I3 J R2 hx2
    have cl : am_E (d + 80) 102 0 [(0, .ref 3)] [] (I, J, R, 138) = some (some (.int (am_i (-1))), (I4, J, R2, 138)) := by
      rw [sg_X11_sound_0]
      simp (disch := first | assumption | omega) only [rX hx, ly_csx, ly_cax, ly_cf, ly_kd, ly_ln, ↓Bool.cond_decide, cond_true, cond_false, ↓bI_p, ↓bV_p, ↓bL_p, bIJ_s, bVJ_s, bLJ_s, ↓am_let_s, Nat.blt, Nat.ble, Bool.and_true, Bool.true_and, Bool.and_self, Int.cast_ofNat_Int, am_i_add, am_i_sub, am_i_mul, am_ok_i, am_i_cl, n_lt, n_le, n_eq, n_lt0, n_le0, n_0lt, n_0le, n_eq0, ne_eq, ↓reduceIte, not_true_eq_false, not_false_eq_true, and_true, true_and, and_false, false_and, eq_T, eq_F, lt_T, lt_F, le_T, le_F, qn_T, qn_F, and_F, b01_T, b01_F, e_isIn, Int32.toInt_toInt64, am_i_toInt, am_l_toInt, Int.toNat_natCast, Int.reduceToNat, Int.reduceAdd, Int.reduceSub, Int.reduceMul, Int.reduceNeg, Nat.reduceAdd, Nat.reduceMul, Nat.add_zero, Nat.mul_zero, Nat.zero_add, am_zb0, am_zb1, tx, a1']
      simp (disch := first | assumption | omega) only [am_i_add, am_i_sub, am_i_mul, am_ok_i, am_i_cl, n_lt, n_le, n_eq, n_lt0, n_le0, n_0lt, n_0le, n_eq0, ne_eq, ↓reduceIte, not_true_eq_false, not_false_eq_true, and_true, true_and, and_false, false_and, eq_T, eq_F, lt_T, lt_F, le_T, le_F, qn_T, qn_F, and_F, b01_T, b01_F, e_isIn, Int32.toInt_toInt64, am_i_toInt, am_l_toInt, Int.toNat_natCast, Int.reduceToNat, Int.reduceAdd, Int.reduceSub, Int.reduceMul, Int.reduceNeg, Nat.reduceAdd, Nat.reduceMul, Nat.add_zero, Nat.mul_zero, Nat.zero_add, am_zb0, am_zb1, ly_cf, ↓Bool.cond_decide, cond_true, cond_false, ↓bI_p, ↓bV_p, bIJ_s, bVJ_s, ↓am_let_s, rX hx1, h351, b1]
      simp (disch := first | assumption | omega) only [am_i_add, am_i_sub, am_i_mul, am_ok_i, am_i_cl, n_lt, n_le, n_eq, n_lt0, n_le0, n_0lt, n_0le, n_eq0, ne_eq, ↓reduceIte, not_true_eq_false, not_false_eq_true, and_true, true_and, and_false, false_and, eq_T, eq_F, lt_T, lt_F, le_T, le_F, qn_T, qn_F, and_F, b01_T, b01_F, e_isIn, Int32.toInt_toInt64, am_i_toInt, am_l_toInt, Int.toNat_natCast, Int.reduceToNat, Int.reduceAdd, Int.reduceSub, Int.reduceMul, Int.reduceNeg, Nat.reduceAdd, Nat.reduceMul, Nat.add_zero, Nat.mul_zero, Nat.zero_add, am_zb0, am_zb1, ly_cf, ↓Bool.cond_decide, cond_true, cond_false, ↓bI_p, ↓bV_p, bIJ_s, bVJ_s, ↓am_let_s, rX hx2, ← hI3, z10, rf]
    have rp2 : rP R R2 := fun q k y1 y2 y3 => r2 q k y2 y3
    have hm2 := rP_m rp2 hm
    have o4 : ∀ q j, ¬ (q = 63 ∧ j = 1) → ¬ (q = 3 ∧ j = 1) → ¬ (q = 5 ∨ q = 8 ∨ q = 9 ∨ (c2 ≤ q ∧ q ≤ c2 + 9)) → I4 q j = I q j := fun q j y1 y2 y3 => by rw [hI4, am_up_o y1, o3 q j y2, o2 q j y3]
    refine Wp_e cl (Wp_r ⟨I4, J, R2, rfl, rfl, ?_, ?_, ?_⟩)
    · funext k
      rw [o4 1 k (by omega) (by omega) (by omega)]
    · rw [r2 _ _ (by omega) (by omega)]
    · have T4 : txM T n I4 := ⟨n16, fun k hk => ⟨(hT k hk).1, by rw [o4 _ _ (by omega) (by omega) (by omega)]; exact (hT k hk).2.2⟩, fun q hq => by
        rw [← hX q hq]
        have : q ≠ 63 ∧ q ≠ 3 ∧ ¬ (q = 5 ∨ q = 8 ∨ q = 9 ∨ (c2 ≤ q ∧ q ≤ c2 + 9)) := by unfold fixd at hq; simp at hq; omega
        exact funext fun k => o4 q k (by omega) (by omega) this.2.2⟩
      obtain ⟨I9, J9, ⟨-, g1⟩, g2, g3, g4⟩ := m_sound (d := d + 67) (J := J) hm2 T4 (by rw [o4 _ _ (by omega) (by omega) (by omega)]; exact tm)
      obtain ⟨f1, f3, f4, f5, f6, f7⟩ := g1 q
      have o9 : ∀ q j, ¬ (93 ≤ q ∧ q ≤ 103) → q ≠ 134 → q ≠ 135 → q ≠ 64 → ¬ (q = 66 ∧ j = 1) → I9 q j = I4 q j := fun q j y1 y2 y3 y4 y5 => g3 q j y1 y2 y3 y5 (by omega)
      refine Wp_e f1 (Wp_r ⟨I9, J9, R2, rfl, rfl, ?_⟩)
      have keep : ∀ q j, ¬ (93 ≤ q ∧ q ≤ 103) → q ≠ 134 → q ≠ 135 → q ≠ 64 → ¬ (q = 63 ∧ j = 1) → ¬ (q = 3 ∧ j = 1) → ¬ (q = 66 ∧ j = 1) → ¬ (q = 5 ∨ q = 8 ∨ q = 9 ∨ (c2 ≤ q ∧ q ≤ c2 + 9)) → I9 q j = I q j := fun q j y1 y2 y3 y4 y5 y6 y7 y8 => by rw [o9 q j y1 y2 y3 y4 y7, o4 q j y5 y6 y8]
      have rW : restW I9 J9 R2 := by
        refine restW_S h4 hw0 (fun q j e => ?_) (fun j hj => f6 j hj) (by rw [h34', h4])
        unfold rsD at e
        by_cases z64 : q = 64
        · subst z64
          by_cases z : j = 50 ∨ j = 68
          · rw [f7 64 j (by omega), o4 _ _ (by omega) (by omega) (by omega)]
          · rw [g3 _ _ (by omega) (by omega) (by omega) (by omega) (by omega), o4 _ _ (by omega) (by omega) (by omega)]
        · by_cases zz : 93 ≤ q ∧ q ≤ 103
          · rw [f7 q j (by omega), o4 _ _ (by omega) (by omega) (by omega)]
          · exact keep q j zz (by omega) (by omega) z64 (by omega) (by omega) (by omega) (by omega)
      refine ⟨⟨?_, ?_, hx2, hm2, ?_, ?_, ?_, ?_, ?_⟩, ⟨0, by omega, ?_, g2, fun k hk => absurd hk (Nat.not_lt_zero _)⟩, fun k hk => ?_, ⟨?_, ?_⟩, ?_, ?_, ?_, rW⟩
      · rw [← h1]
        exact funext fun k => keep 1 k (by omega) (by omega) (by omega) (by omega) (by omega) (by omega) (by omega) (by omega)
      · rw [r2 _ _ (by omega) (by omega)]; exact h2
      · rw [r2 _ _ (by omega) (by omega), r2 _ _ (by omega) (by omega)]; exact hmu.1
      · rw [hR2, am_up_e]; exact hc2
      · rw [r2 _ _ (by omega) (by omega)]; exact hmu.2.2.1
      · rw [r2 _ _ (by omega) (by omega)]; exact hmu.2.2.2.1
      · left
        rw [hR2, am_up_o (by omega), am_up_e]
      · rw [o9 _ _ (by omega) (by omega) (by omega) (by omega) (by omega), hI4, am_up_o (by omega), hI3, am_up_e]; rfl
      · by_cases z : k = 1
        · subst z
          rw [f5, o9 63 _ (by omega) (by omega) (by omega) (by omega) (by omega), hI4, am_up_e, o3 _ _ (by omega), o2 _ _ (by omega), am_up_o (by omega), o3 _ _ (by omega), o2 _ _ (by omega), hr 1 hk]
        · rw [keep 63 _ (by omega) (by omega) (by omega) (by omega) (by omega) (by omega) (by omega) (by omega), keep 66 _ (by omega) (by omega) (by omega) (by omega) (by omega) (by omega) (by omega) (by omega)]
          exact hr k hk
      · rw [f3, o9 _ _ (by omega) (by omega) (by omega) (by omega) (by omega), hI4, am_up_o (by omega), o3 _ _ (by omega)]; exact e2
      · rw [f4, o9 _ _ (by omega) (by omega) (by omega) (by omega) (by omega), hI4, am_up_o (by omega), o3 _ _ (by omega)]; exact e3
      · refine vPic_cg I I9 (fun q j e => ?_) hp
        unfold dPic at e; simp at e
        by_cases z : q = 64
        · subst z
          rw [g3 _ _ (by omega) (by omega) (by omega) (by omega) (by omega), o4 _ _ (by omega) (by omega) (by omega)]
        · exact keep q j (by omega) (by omega) (by omega) z (by omega) (by omega) (by omega) (by omega)
      · refine vSeen_cg I I9 (fun q j e => ?_) hs
        unfold dSeen at e; simp at e
        by_cases z : q = 64
        · subst z
          rw [f7 64 j (by omega), o4 _ _ (by omega) (by omega) (by omega)]
        · exact keep q j (by omega) (by omega) (by omega) z (by omega) (by omega) (by omega) (by omega)
      · obtain ⟨s, s1, s2, s3⟩ := hd
        exact ⟨s, s1, by rw [keep 3 17 (by omega) (by omega) (by omega) (by omega) (by omega) (by omega) (by omega) (by omega)]; exact s2, by rw [g4 _ _ (by omega)]; exact s3⟩
end PSN2
