/-! ===== an hour of the reference ===== -/
def entB (last : Nat) (wf : Nat → Nat) (fm : Nat → List tok) (u h : Nat) (nt : Nat → Nat) (s : Nat → bt) (b : Nat) : List ent :=
  if ouS last (nt b) (s b) then (if (paS last wf fm u (nt b) (s b)).mi = last then [(h, b, 1)] else if (paS last wf fm u (nt b) (s b)).su = 1 then [(h, b, 0)] else []) else []
def entF (e : Nat → List ent) : Nat → Nat → List ent
  | _, 0 => []
  | i, n + 1 => e i ++ entF e (i + 1) n
def skF (p : Nat → Bool) : Nat → Nat → Int → Int
  | _, 0, sk => sk
  | i, n + 1, sk => skF p (i + 1) n (if sk = -1 ∧ p i = true then (i : Int) else sk)
def skB (last : Nat) (wf : Nat → Nat) (fm : Nat → List tok) (u : Nat) (nt : Nat → Nat) (s : Nat → bt) (b : Nat) : Bool := decide (ouS last (nt b) (s b) ∧ (paS last wf fm u (nt b) (s b)).su = 1)
def laB (last : Nat) (wf : Nat → Nat) (fm : Nat → List tok) (u : Nat) (nt : Nat → Nat) (s : Nat → bt) (b : Nat) : Nat := if ouS last (nt b) (s b) ∧ (paS last wf fm u (nt b) (s b)).mi = last then 1 else 0
def mHc (q k : Nat) : Prop := q = 103 ∨ q = 106 ∨ (q = 64 ∧ (k = 51 ∨ k = 54 ∨ k = 55 ∨ k = 56 ∨ k = 59 ∨ k = 60 ∨ k = 101))
theorem md_i {p n : Nat} (h : p < n) (hn : n ≤ 6) : am_i ((p : Int) + 1) - am_i ((p : Int) + 1) / am_i n * am_i n = am_i ((if p + 1 < n then p + 1 else 0 : Nat) : Int) := by
  rw [i_div (by omega) (by omega) (by omega) (by omega), am_i_mul, am_i_sub]
  congr 1
  by_cases q : p + 1 < n
  · rw [if_pos q, Int.tdiv_eq_ediv_of_nonneg (by omega), Int.ediv_eq_zero_of_lt (by omega) (by omega)]
    omega
  · have : p + 1 = n := by omega
    rw [if_neg q, show ((p : Int) + 1) = (n : Int) by omega, Int.tdiv_self (by omega)]
    omega
section HOUR
variable {d : Nat} {J : tJ} {R : tR} {last wd nb : Nat} {nt wf : Nat → Nat} {fm : Nat → List tok} {s : Nat → bt} {u h : Nat} {th : Bool}
theorem m_keptB {I : tI} {L : List ent} {h b w : Nat} (hm : st_Rm R) (h58 : I 64 58 = am_i (if th = true then 1 else 0)) (h0 : I 103 0 = am_i h) (hK : th = false → keptG (I 103) L) : Wp (fun r M => ∃ I', r = none ∧ M = (I', J, R, 138) ∧ (∀ q k, ¬ (q = 103 ∧ 67 ≤ k) → I' q k = I q k) ∧ (th = true → ∀ k, 67 ≤ k → I' 103 k = I 103 k) ∧ (th = false → keptG (I' 103) (L ++ [(h, b, w)]))) (am_E (d + 1) 209 0 [(0, .ref 64), (1, .int (am_i b)), (2, .int (am_i w))] [] (I, J, R, 138)) := by
  cases th with
  | true => exact Wp_e (m_keptT h58) (Wp_r ⟨I, rfl, rfl, fun _ _ _ => rfl, fun _ _ _ => rfl, fun e => by cases e⟩)
  | false =>
    refine Wp_m (m_kept hm h58 h0 (hK rfl)) ?_
    rintro _ _ ⟨I', rfl, rfl, g1, g2⟩
    exact ⟨I', rfl, rfl, g1, (fun e => by cases e), fun _ => g2⟩
theorem m_keptB0 {I : tI} {L : List ent} {h b : Nat} (hm : st_Rm R) (h58 : I 64 58 = am_i (if th = true then 1 else 0)) (h0 : I 103 0 = am_i h) (hK : th = false → keptG (I 103) L) : Wp (fun r M => ∃ I', r = none ∧ M = (I', J, R, 138) ∧ (∀ q k, ¬ (q = 103 ∧ 67 ≤ k) → I' q k = I q k) ∧ (th = true → ∀ k, 67 ≤ k → I' 103 k = I 103 k) ∧ (th = false → keptG (I' 103) (L ++ [(h, b, 0)]))) (am_E (d + 1) 209 0 [(0, .ref 64), (1, .int (am_i b)), (2, .int (am_i 0))] [] (I, J, R, 138)) := m_keptB (w := 0) hm h58 h0 hK
theorem m_keptB1 {I : tI} {L : List ent} {h b : Nat} (hm : st_Rm R) (h58 : I 64 58 = am_i (if th = true then 1 else 0)) (h0 : I 103 0 = am_i h) (hK : th = false → keptG (I 103) L) : Wp (fun r M => ∃ I', r = none ∧ M = (I', J, R, 138) ∧ (∀ q k, ¬ (q = 103 ∧ 67 ≤ k) → I' q k = I q k) ∧ (th = true → ∀ k, 67 ≤ k → I' 103 k = I 103 k) ∧ (th = false → keptG (I' 103) (L ++ [(h, b, 1)]))) (am_E (d + 1) 209 0 [(0, .ref 64), (1, .int (am_i b)), (2, .int (am_i 1))] [] (I, J, R, 138)) := m_keptB (w := 1) hm h58 h0 hK
theorem m_isOut {I : tI} {b mi su : Nat} (hm : st_Rm R) (hb6 : b < 6) (hl : last ≤ 60) (hmi : mi ≤ 60) (hsu : su ≤ 1) (e1 : I 103 (1 + 11 * b) = am_i mi) (e4 : I 103 (4 + 11 * b) = am_i su) (e93 : I 93 3 = am_i last) : am_E (d + 3) 205 0 [(0, .ref 64), (1, .int (am_i b))] [] (I, J, R, 138) = some (some (.int (b01 (su = 0 ∧ mi ≠ last))), (I, J, R, 138)) := by
  have mL := fun d => e_mLanded (d := d) (I := I) (J := J) (b := (b : Int)) (v := mi) (w := last) hm (by omega) (by omega) (by rw [Int.toNat_natCast]; exact e1) e93 hmi hl
  have mS := fun d => e_isSunk (d := d) (I := I) (J := J) (b := (b : Int)) (v := su) hm (by omega) (by omega) (by rw [Int.toNat_natCast]; exact e4) hsu
  rw [sg_X12_isOut_0]
  by_cases q : mi = last
  · rw [b01_f (fun e => e.2 q)]
    simp (disch := first | assumption | omega) only [rM hm, ly_csm, ly_cam, ly_cf, ly_kd, ly_ln, ↓Bool.cond_decide, cond_true, cond_false, ↓bI_p, ↓bV_p, ↓bL_p, bIJ_s, bVJ_s, bLJ_s, ↓am_let_s, Nat.blt, Nat.ble, Bool.and_true, Bool.true_and, Bool.and_self, Int.cast_ofNat_Int, am_i_add, am_i_sub, am_i_mul, am_ok_i, am_i_cl, n_lt, n_le, n_eq, n_lt0, n_le0, n_0lt, n_0le, n_eq0, ne_eq, ↓reduceIte, not_true_eq_false, not_false_eq_true, and_true, true_and, and_false, false_and, eq_T, eq_F, lt_T, lt_F, le_T, le_F, qn_T, qn_F, and_F, b01_T, b01_F, e_isIn, Int32.toInt_toInt64, am_i_toInt, am_l_toInt, Int.toNat_natCast, Int.reduceToNat, Int.reduceAdd, Int.reduceSub, Int.reduceMul, Int.reduceNeg, Nat.reduceAdd, Nat.reduceMul, Nat.add_zero, Nat.mul_zero, Nat.zero_add, am_zb0, am_zb1, mL, b01_t q, sg_X12_isOut_20]
  · by_cases q2 : su = 0
    · rw [b01_t ⟨q2, q⟩]
      simp (disch := first | assumption | omega) only [rM hm, ly_csm, ly_cam, ly_cf, ly_kd, ly_ln, ↓Bool.cond_decide, cond_true, cond_false, ↓bI_p, ↓bV_p, ↓bL_p, bIJ_s, bVJ_s, bLJ_s, ↓am_let_s, Nat.blt, Nat.ble, Bool.and_true, Bool.true_and, Bool.and_self, Int.cast_ofNat_Int, am_i_add, am_i_sub, am_i_mul, am_ok_i, am_i_cl, n_lt, n_le, n_eq, n_lt0, n_le0, n_0lt, n_0le, n_eq0, ne_eq, ↓reduceIte, not_true_eq_false, not_false_eq_true, and_true, true_and, and_false, false_and, eq_T, eq_F, lt_T, lt_F, le_T, le_F, qn_T, qn_F, and_F, b01_T, b01_F, e_isIn, Int32.toInt_toInt64, am_i_toInt, am_l_toInt, Int.toNat_natCast, Int.reduceToNat, Int.reduceAdd, Int.reduceSub, Int.reduceMul, Int.reduceNeg, Nat.reduceAdd, Nat.reduceMul, Nat.add_zero, Nat.mul_zero, Nat.zero_add, am_zb0, am_zb1, mL, b01_f q, mS, q2, sg_X12_isOut_20]
    · rw [b01_f (fun e => q2 e.1)]
      simp (disch := first | assumption | omega) only [rM hm, ly_csm, ly_cam, ly_cf, ly_kd, ly_ln, ↓Bool.cond_decide, cond_true, cond_false, ↓bI_p, ↓bV_p, ↓bL_p, bIJ_s, bVJ_s, bLJ_s, ↓am_let_s, Nat.blt, Nat.ble, Bool.and_true, Bool.true_and, Bool.and_self, Int.cast_ofNat_Int, am_i_add, am_i_sub, am_i_mul, am_ok_i, am_i_cl, n_lt, n_le, n_eq, n_lt0, n_le0, n_0lt, n_0le, n_eq0, ne_eq, ↓reduceIte, not_true_eq_false, not_false_eq_true, and_true, true_and, and_false, false_and, eq_T, eq_F, lt_T, lt_F, le_T, le_F, qn_T, qn_F, and_F, b01_T, b01_F, e_isIn, Int32.toInt_toInt64, am_i_toInt, am_l_toInt, Int.toNat_natCast, Int.reduceToNat, Int.reduceAdd, Int.reduceSub, Int.reduceMul, Int.reduceNeg, Nat.reduceAdd, Nat.reduceMul, Nat.add_zero, Nat.mul_zero, Nat.zero_add, am_zb0, am_zb1, mL, b01_f q, mS, sg_X12_isOut_20]
theorem m_hloop (hm : st_Rm R) (hu : u ≤ 9) (hh : h ≤ 998) (hO : ∀ b, b < nb → bOK last (nt b) (s b)) :
    ∀ (n i : Nat) (I : tI) (J : tJ) (L : List ent) (sk : Int) (lm : Int), i + n = nb → cxM last wd nb nt wf fm I → I 64 58 = am_i (if th = true then 1 else 0) → (th = false → keptG (I 103) L) → I 103 0 = am_i h → (∀ b, i ≤ b → b < nb → bX (I 103) (1 + 11 * b) (nt b) (s b)) → -1 ≤ sk → sk < 6 → I 64 60 = am_i sk → I 64 59 = am_i lm →
      Wp (fun r M => ∃ I' J', r = none ∧ M = (I', J', R, 138) ∧ frJ J J' ∧ (∀ q k, ¬ mHc q k → I' q k = I q k) ∧ (∀ k, 1 ≤ k → k < 1 + 11 * i → I' 103 k = I 103 k) ∧ (∀ b, b < i → I' 106 b = I 106 b) ∧ (∀ b, i ≤ b → b < nb → bX (I' 103) (1 + 11 * b) (nt b) (paS last wf fm u (nt b) (s b)) ∧ I' 106 b = am_i (noS last (nt b) (s b))) ∧ I' 103 0 = am_i (h + 1 : Nat) ∧ I' 64 60 = am_i (skF (skB last wf fm u nt s) i n sk) ∧ I' 64 59 = am_i (lm + (cnt (laB last wf fm u nt s) i n : Nat)) ∧ (th = true → ∀ k, 67 ≤ k → I' 103 k = I 103 k) ∧ (th = false → keptG (I' 103) (L ++ entF (entB last wf fm u h nt s) i n))) (am_E (d + 7) 210 7 [(0, .ref 64), (1, .int (am_i u)), (2, .int (am_i i))] [] (I, J, R, 138))
  | 0, i, I, J, L, sk, lm, hi, hX, h58, hK, h0, hB, sk1, sk2, h60, h59 => by
    have h94 := hX.2.2.2.2.1
    have hn6 := hX.2.2.2.2.2.1
    have e1 : ∀ d, am_E (d + 1) 192 0 [(0, .ref 64)] [] (I, J, R, 138) = some (some (.int (am_i nb)), (I, J, R, 138)) := fun d => by
      rw [sg_X12_boatMany_0]
      simp (disch := first | assumption | omega) only [rM hm, ly_csm, ly_cam, ly_cf, ly_kd, ly_ln, ↓Bool.cond_decide, cond_true, cond_false, ↓bI_p, ↓bV_p, ↓bL_p, bIJ_s, bVJ_s, bLJ_s, ↓am_let_s, Nat.blt, Nat.ble, Bool.and_true, Bool.true_and, Bool.and_self, Int.cast_ofNat_Int, am_i_add, am_i_sub, am_i_mul, am_ok_i, am_i_cl, n_lt, n_le, n_eq, n_lt0, n_le0, n_0lt, n_0le, n_eq0, ne_eq, ↓reduceIte, not_true_eq_false, not_false_eq_true, and_true, true_and, and_false, false_and, eq_T, eq_F, lt_T, lt_F, le_T, le_F, qn_T, qn_F, and_F, b01_T, b01_F, e_isIn, Int32.toInt_toInt64, am_i_toInt, am_l_toInt, Int.toNat_natCast, Int.reduceToNat, Int.reduceAdd, Int.reduceSub, Int.reduceMul, Int.reduceNeg, Nat.reduceAdd, Nat.reduceMul, Nat.add_zero, Nat.mul_zero, Nat.zero_add, am_zb0, am_zb1, h94]
    rw [sg_X12_hourGoes_7]
    simp (disch := first | assumption | omega) only [rM hm, ly_csm, ly_cam, ly_cf, ly_kd, ly_ln, ↓Bool.cond_decide, cond_true, cond_false, ↓bI_p, ↓bV_p, ↓bL_p, bIJ_s, bVJ_s, bLJ_s, ↓am_let_s, Nat.blt, Nat.ble, Bool.and_true, Bool.true_and, Bool.and_self, Int.cast_ofNat_Int, am_i_add, am_i_sub, am_i_mul, am_ok_i, am_i_cl, n_lt, n_le, n_eq, n_lt0, n_le0, n_0lt, n_0le, n_eq0, ne_eq, ↓reduceIte, not_true_eq_false, not_false_eq_true, and_true, true_and, and_false, false_and, eq_T, eq_F, lt_T, lt_F, le_T, le_F, qn_T, qn_F, and_F, b01_T, b01_F, e_isIn, Int32.toInt_toInt64, am_i_toInt, am_l_toInt, Int.toNat_natCast, Int.reduceToNat, Int.reduceAdd, Int.reduceSub, Int.reduceMul, Int.reduceNeg, Nat.reduceAdd, Nat.reduceMul, Nat.add_zero, Nat.mul_zero, Nat.zero_add, am_zb0, am_zb1, e1, h0, am_i_s]
    refine Wp_r ⟨_, _, rfl, rfl, frJ_r _, fun q k a => ?_, fun k a1 a2 => am_up_o (by omega), fun b hb => am_up_o (by omega), fun b b1 b2 => absurd b2 (by omega), am_up_e, ?_, ?_, fun _ k a => am_up_o (by omega), fun e => ?_⟩
    · refine am_up_o (fun e => a (Or.inl e.1))
    · rw [am_up_o (by omega)]; exact h60
    · rw [am_up_o (by omega), h59]; congr 1; show lm = lm + ((0 : Nat) : Int); omega
    · show keptG _ (L ++ [])
      rw [List.append_nil]
      exact keptG_c (hK e) (fun k a => am_up_o (by omega))
  | n + 1, i, I, J, L, sk, lm, hi, hX, h58, hK, h0, hB, sk1, sk2, h60, h59 => by
    have h94 := hX.2.2.2.2.1
    have hn6 := hX.2.2.2.2.2.1
    have hl := hX.2.1
    have hib : i < nb := by omega
    obtain ⟨nt6, h96⟩ := hX.2.2.2.2.2.2.1 i hib
    obtain ⟨k1, k2, k3, k4, k5, k6, k7⟩ := hO i hib
    have hBi := hB i (Nat.le_refl _) hib
    obtain ⟨x1, x2, x3, x4, x5, x6⟩ := bX_i.mp hBi
    have e1 : ∀ d, am_E (d + 1) 192 0 [(0, .ref 64)] [] (I, J, R, 138) = some (some (.int (am_i nb)), (I, J, R, 138)) := fun d => by
      rw [sg_X12_boatMany_0]
      simp (disch := first | assumption | omega) only [rM hm, ly_csm, ly_cam, ly_cf, ly_kd, ly_ln, ↓Bool.cond_decide, cond_true, cond_false, ↓bI_p, ↓bV_p, ↓bL_p, bIJ_s, bVJ_s, bLJ_s, ↓am_let_s, Nat.blt, Nat.ble, Bool.and_true, Bool.true_and, Bool.and_self, Int.cast_ofNat_Int, am_i_add, am_i_sub, am_i_mul, am_ok_i, am_i_cl, n_lt, n_le, n_eq, n_lt0, n_le0, n_0lt, n_0le, n_eq0, ne_eq, ↓reduceIte, not_true_eq_false, not_false_eq_true, and_true, true_and, and_false, false_and, eq_T, eq_F, lt_T, lt_F, le_T, le_F, qn_T, qn_F, and_F, b01_T, b01_F, e_isIn, Int32.toInt_toInt64, am_i_toInt, am_l_toInt, Int.toNat_natCast, Int.reduceToNat, Int.reduceAdd, Int.reduceSub, Int.reduceMul, Int.reduceNeg, Nat.reduceAdd, Nat.reduceMul, Nat.add_zero, Nat.mul_zero, Nat.zero_add, am_zb0, am_zb1, h94]
    /- behind boat i -/
    have next : ∀ I2 J2 L2 sk' lm', frJ J J2 → (∀ q k, ¬ ((q = 103 ∧ (1 + 11 * i ≤ k ∧ k ≤ 5 + 11 * i ∨ 67 ≤ k)) ∨ (q = 106 ∧ k = i) ∨ (q = 64 ∧ (k = 51 ∨ k = 54 ∨ k = 55 ∨ k = 56 ∨ k = 59 ∨ k = 60 ∨ k = 101))) → I2 q k = I q k) → bX (I2 103) (1 + 11 * i) (nt i) (paS last wf fm u (nt i) (s i)) → I2 106 i = am_i (noS last (nt i) (s i)) → sk' = (if sk = -1 ∧ skB last wf fm u nt s i = true then (i : Int) else sk) → I2 64 60 = am_i sk' → lm' = lm + (laB last wf fm u nt s i : Nat) → I2 64 59 = am_i lm' → L2 = L ++ entB last wf fm u h nt s i → (th = true → ∀ k, 67 ≤ k → I2 103 k = I 103 k) → (th = false → keptG (I2 103) L2) →
        Wp (fun r M => ∃ I' J', r = none ∧ M = (I', J', R, 138) ∧ frJ J J' ∧ (∀ q k, ¬ mHc q k → I' q k = I q k) ∧ (∀ k, 1 ≤ k → k < 1 + 11 * i → I' 103 k = I 103 k) ∧ (∀ b, b < i → I' 106 b = I 106 b) ∧ (∀ b, i ≤ b → b < nb → bX (I' 103) (1 + 11 * b) (nt b) (paS last wf fm u (nt b) (s b)) ∧ I' 106 b = am_i (noS last (nt b) (s b))) ∧ I' 103 0 = am_i (h + 1 : Nat) ∧ I' 64 60 = am_i (skF (skB last wf fm u nt s) i (n + 1) sk) ∧ I' 64 59 = am_i (lm + (cnt (laB last wf fm u nt s) i (n + 1) : Nat)) ∧ (th = true → ∀ k, 67 ≤ k → I' 103 k = I 103 k) ∧ (th = false → keptG (I' 103) (L ++ entF (entB last wf fm u h nt s) i (n + 1)))) (am_E (d + 7) 210 143 [(0, .ref 64), (1, .int (am_i u)), (2, .int (am_i i))] [] (I2, J2, R, 138)) := by
      intro I2 J2 L2 sk' lm' f1 f2 f3 f4 f5 f6 f7 f8 f9 f10 f11
      rw [sg_X12_hourGoes_143, am_let_s, am_i_add, am_i_s]
      refine Wp_m (m_hloop hm hu hh hO n (i + 1) I2 J2 L2 sk' lm' (by omega) (cxM_c (fun q k a1 a2 => f2 q k (by omega)) hX) (by rw [f2 _ _ (by omega)]; exact h58) f11 (by rw [f2 _ _ (by omega)]; exact h0) (fun b b1 b2 => ?_) ?_ ?_ f6 f8) ?_
      · obtain ⟨y1, y2, y3, y4, y5, y6⟩ := bX_i.mp (hB b (by omega) b2)
        have nb6 := (hX.2.2.2.2.2.2.1 b b2).1
        exact bX_i.mpr ⟨by rw [f2 _ _ (by omega)]; exact y1, by rw [f2 _ _ (by omega)]; exact y2, by rw [f2 _ _ (by omega)]; exact y3, by rw [f2 _ _ (by omega)]; exact y4, by rw [f2 _ _ (by omega)]; exact y5, fun k hk => by rw [f2 _ _ (by omega)]; exact y6 k hk⟩
      · rw [f5]; split <;> omega
      · rw [f5]; split <;> omega
      · rintro _ _ ⟨I', J', rfl, rfl, g1, g2, g3, g4, g5, g6, g7, g8, g9, g10⟩
        refine ⟨I', J', rfl, rfl, frJ_t f1 g1, fun q k a => ?_, fun k a1 a2 => ?_, fun b hb => ?_, fun b b1 b2 => ?_, g6, ?_, ?_, fun e k a => ?_, fun e => ?_⟩
        · rw [g2 q k a, f2 q k (by unfold mHc at a; omega)]
        · rw [g3 k a1 (by omega), f2 _ _ (by omega)]
        · rw [g4 b (by omega), f2 _ _ (by omega)]
        · by_cases c : b = i
          · subst c
            obtain ⟨y1, y2, y3, y4, y5, y6⟩ := bX_i.mp f3
            refine ⟨bX_i.mpr ⟨by rw [g3 _ (by omega) (by omega)]; exact y1, by rw [g3 _ (by omega) (by omega)]; exact y2, by rw [g3 _ (by omega) (by omega)]; exact y3, by rw [g3 _ (by omega) (by omega)]; exact y4, by rw [g3 _ (by omega) (by omega)]; exact y5, fun k hk => by rw [g3 _ (by omega) (by omega)]; exact y6 k hk⟩, ?_⟩
            rw [g4 _ (by omega)]; exact f4
          · exact g5 b (by omega) b2
        · rw [g7, f5]; rfl
        · rw [g8, f7]
          congr 1
          show lm + (laB last wf fm u nt s i : Nat) + (cnt (laB last wf fm u nt s) (i + 1) n : Nat) = lm + ((laB last wf fm u nt s i + cnt (laB last wf fm u nt s) (i + 1) n : Nat) : Int)
          omega
        · rw [g9 e k a, f10 e k a]
        · have := g10 e
          rw [f9, List.append_assoc] at this
          exact this
    have iO := fun d (J : tJ) => m_isOut (d := d) (J := J) (I := am_up I 106 i (am_i 8)) (b := i) (mi := (s i).mi) (su := (s i).su) (last := last) hm (by omega) hl (by omega) k4 (by rw [am_up_o (by omega)]; exact x1) (by rw [am_up_o (by omega)]; exact x4) (by rw [am_up_o (by omega)]; exact hX.1)
    have nM := fun d (I : tI) (J : tJ) => e_noteMany (d := d) (I := I) (J := J) (b := (i : Int)) hm (by omega) (by omega)
    have pO := fun d (I : tI) (J : tJ) => e_placeOf (d := d) (I := I) (J := J) (b := (i : Int)) hm (by omega) (by omega)
    rw [Int.toNat_natCast] at nM pO
    rw [sg_X12_hourGoes_7]
    by_cases ho : ouS last (nt i) (s i)
    · have hn0 : nt i ≠ 0 := ho.1
      have hsc := k7 (s i).pl (by omega)
      have hpl : (s i).pl < nt i := by omega
      have c : (s i).su = 0 ∧ (s i).mi ≠ last := ho.2
      have z2 : noS last (nt i) (s i) = (s i).sc (s i).pl := by unfold noS; rw [if_pos ho]
      have nO := fun d (J : tJ) => e_noteOf (d := d) (I := am_up I 106 i (am_i 8)) (J := J) (b := (i : Int)) (k := ((s i).pl : Int)) hm (by omega) (by omega) (by omega) (by omega)
      rw [Int.toNat_natCast, Int.toNat_natCast] at nO
      have xs : I 103 (6 + 11 * i + (s i).pl) = am_i ((s i).sc (s i).pl) := x6 _ hpl
      simp (disch := first | assumption | omega) only [rM hm, ly_csm, ly_cam, ly_cf, ly_kd, ly_ln, ↓Bool.cond_decide, cond_true, cond_false, ↓bI_p, ↓bV_p, ↓bL_p, bIJ_s, bVJ_s, bLJ_s, ↓am_let_s, Nat.blt, Nat.ble, Bool.and_true, Bool.true_and, Bool.and_self, Int.cast_ofNat_Int, am_i_add, am_i_sub, am_i_mul, am_ok_i, am_i_cl, n_lt, n_le, n_eq, n_lt0, n_le0, n_0lt, n_0le, n_eq0, ne_eq, ↓reduceIte, not_true_eq_false, not_false_eq_true, and_true, true_and, and_false, false_and, eq_T, eq_F, lt_T, lt_F, le_T, le_F, qn_T, qn_F, and_F, b01_T, b01_F, e_isIn, Int32.toInt_toInt64, am_i_toInt, am_l_toInt, Int.toNat_natCast, Int.reduceToNat, Int.reduceAdd, Int.reduceSub, Int.reduceMul, Int.reduceNeg, Nat.reduceAdd, Nat.reduceMul, Nat.add_zero, Nat.mul_zero, Nat.zero_add, am_zb0, am_zb1, e1, iO, b01_t c, nM, pO, nO, am_up_o, am_up_e, h96, x5, xs, sg_X12_nextOf_0]
      have g0 : ∀ q k, ¬ (q = 106 ∧ k = i) → am_up (am_up I 106 i (am_i 8)) 106 i (am_i ((s i).sc (s i).pl)) q k = I q k := fun q k e => by rw [am_up_o e, am_up_o e]
      refine Wp_V (m_bow (n := nt i) (s := s i) hm (by omega) (cxM_c (fun q k a1 a2 => g0 q k (by omega)) hX) ⟨k1, k2, k3, k4, k5, k6, k7⟩ (bX_i.mpr ⟨by rw [g0 _ _ (by omega)]; exact x1, by rw [g0 _ _ (by omega)]; exact x2, by rw [g0 _ _ (by omega)]; exact x3, by rw [g0 _ _ (by omega)]; exact x4, by rw [g0 _ _ (by omega)]; exact x5, fun k hk => by rw [g0 _ _ (by omega)]; exact x6 k hk⟩) hsc hu) ?_
      rintro _ _ ⟨I2, J2, rfl, rfl, f2, j2, hb2⟩
      refine ⟨rfl, ?_⟩
      have g2 : ∀ q k, ¬ (q = 106 ∧ k = i) → ¬ (q = 64 ∧ (k = 51 ∨ k = 54 ∨ k = 55 ∨ k = 56 ∨ k = 101)) → ¬ (q = 103 ∧ 1 + 11 * i ≤ k ∧ k ≤ 4 + 11 * i) → I2 q k = I q k := fun q k a1 a2 a3 => by rw [f2 q k (mB_f.mpr ⟨a2, a3⟩), g0 q k a1]
      have g106 : I2 106 i = am_i ((s i).sc (s i).pl) := by rw [f2 _ _ (mB_f.mpr (by omega)), am_up_e]
      obtain ⟨y1, y2, y3, y4, y5, y6⟩ := bX_i.mp hb2
      have y5' : I2 103 (5 + 11 * i) = am_i (s i).pl := y5
      have y96 : I2 96 (27 + 4 * i) = am_i (nt i) := by rw [g2 _ _ (by omega) (by omega) (by omega)]; exact h96
      have n5 : ((5 : Int) + 11 * (i : Int)).toNat = 5 + 11 * i := by omega
      have md : am_i (((s i).pl + 1 : Nat) : Int) - am_i (((s i).pl + 1 : Nat) : Int) / am_i (nt i) * am_i (nt i) = am_i ((if (s i).pl + 1 < nt i then (s i).pl + 1 else 0 : Nat) : Int) := md_i hpl nt6
      have bo := bwS_ok (wf := wf) (fm := fm) (v := (s i).sc (s i).pl) (u := u) (hO i hib) c.1
      obtain ⟨q1, q2, q3, q4, q5, q6, q7⟩ := bo
      /- the place -/
      have pm : (paS last wf fm u (nt i) (s i)).mi = (bwS last wf fm (s i) ((s i).sc (s i).pl) u).mi := by unfold paS; rw [if_pos ho]; rfl
      have pt : (paS last wf fm u (nt i) (s i)).ti = (bwS last wf fm (s i) ((s i).sc (s i).pl) u).ti := by unfold paS; rw [if_pos ho]; rfl
      have pr : (paS last wf fm u (nt i) (s i)).ro = (bwS last wf fm (s i) ((s i).sc (s i).pl) u).ro := by unfold paS; rw [if_pos ho]; rfl
      have ps : (paS last wf fm u (nt i) (s i)).su = (bwS last wf fm (s i) ((s i).sc (s i).pl) u).su := by unfold paS; rw [if_pos ho]; rfl
      have pp : (paS last wf fm u (nt i) (s i)).pl = if (s i).pl + 1 < nt i then (s i).pl + 1 else 0 := by unfold paS; rw [if_pos ho]; rfl
      have pc : (paS last wf fm u (nt i) (s i)).sc = (s i).sc := by unfold paS; rw [if_pos ho]; rfl
      generalize hP : (if (s i).pl + 1 < nt i then (s i).pl + 1 else 0) = P at *
      have w0 : ∀ q k, ¬ (q = 103 ∧ k = 5 + 11 * i) → am_up I2 103 (5 + 11 * i) (am_i P) q k = I2 q k := fun q k e => am_up_o e
      have wB : ∀ I3 : tI, (∀ q k, q = 103 → k ≤ 66 → I3 q k = am_up I2 103 (5 + 11 * i) (am_i P) q k) → bX (I3 103) (1 + 11 * i) (nt i) (paS last wf fm u (nt i) (s i)) := fun I3 e => bX_i.mpr ⟨by rw [e _ _ rfl (by omega), w0 _ _ (by omega), pm]; exact y1, by rw [e _ _ rfl (by omega), w0 _ _ (by omega), pt]; exact y2, by rw [e _ _ rfl (by omega), w0 _ _ (by omega), pr]; exact y3, by rw [e _ _ rfl (by omega), w0 _ _ (by omega), ps]; exact y4, by rw [e _ _ rfl (by omega), am_up_e, pp], fun k hk => by rw [e _ _ rfl (by omega), w0 _ _ (by omega), pc]; exact y6 k hk⟩
      have mL := fun d (J : tJ) => e_mLanded (d := d) (J := J) (I := am_up I2 103 (5 + 11 * i) (am_i P)) (b := (i : Int)) (v := (bwS last wf fm (s i) ((s i).sc (s i).pl) u).mi) (w := last) hm (by omega) (by omega) (by rw [Int.toNat_natCast, w0 _ _ (by omega)]; exact y1) (by rw [w0 _ _ (by omega), g2 _ _ (by omega) (by omega) (by omega)]; exact hX.1) (by omega) hl
      have inz' := inz (a := (nt i : Int)) (by omega) (by omega) (by omega)
      by_cases cl : (bwS last wf fm (s i) ((s i).sc (s i).pl) u).mi = last
      · -- landed
        have cs : (bwS last wf fm (s i) ((s i).sc (s i).pl) u).su = 0 := by
          have : (bwS last wf fm (s i) ((s i).sc (s i).pl) u).su ≠ 1 := fun e => q6 e cl
          omega
        have h59' : I2 64 59 = am_i lm := by rw [g2 _ _ (by omega) (by omega) (by omega)]; exact h59
        simp (disch := first | assumption | omega) only [rM hm, ly_csm, ly_cam, ly_cf, ly_kd, ly_ln, ↓Bool.cond_decide, cond_true, cond_false, ↓bI_p, ↓bV_p, ↓bL_p, bIJ_s, bVJ_s, bLJ_s, ↓am_let_s, Nat.blt, Nat.ble, Bool.and_true, Bool.true_and, Bool.and_self, Int.cast_ofNat_Int, am_i_add, am_i_sub, am_i_mul, am_ok_i, am_i_cl, n_lt, n_le, n_eq, n_lt0, n_le0, n_0lt, n_0le, n_eq0, ne_eq, ↓reduceIte, not_true_eq_false, not_false_eq_true, and_true, true_and, and_false, false_and, eq_T, eq_F, lt_T, lt_F, le_T, le_F, qn_T, qn_F, and_F, b01_T, b01_F, e_isIn, Int32.toInt_toInt64, am_i_toInt, am_l_toInt, Int.toNat_natCast, Int.reduceToNat, Int.reduceAdd, Int.reduceSub, Int.reduceMul, Int.reduceNeg, Nat.reduceAdd, Nat.reduceMul, Nat.add_zero, Nat.mul_zero, Nat.zero_add, am_zb0, am_zb1, pO, nM, y5', y96, n5, md, inz', am_up_o, mL, b01_t cl, h59', am_i_s]
        have v0 : ∀ q k, ¬ (q = 103 ∧ k = 5 + 11 * i) → ¬ (q = 64 ∧ k = 59) → am_up (am_up I2 103 (5 + 11 * i) (am_i P)) 64 59 (am_i (lm + 1)) q k = I2 q k := fun q k e1 e2 => by rw [am_up_o e2, am_up_o e1]
        refine Wp_V (m_keptB1 (th := th) (L := L) (h := h) (b := i) hm (by rw [v0 _ _ (by omega) (by omega), g2 _ _ (by omega) (by omega) (by omega)]; exact h58) (by rw [v0 _ _ (by omega) (by omega), g2 _ _ (by omega) (by omega) (by omega)]; exact h0) (fun e => keptG_c (hK e) (fun k hk => by rw [v0 _ _ (by omega) (by omega), g2 _ _ (by omega) (by omega) (by omega)]))) ?_
        rintro _ _ ⟨I3, rfl, rfl, f3, t3, k3'⟩
        refine ⟨rfl, ?_⟩
        have mSu := fun d => e_isSunk (d := d) (I := I3) (J := J2) (b := (i : Int)) (v := 0) hm (by omega) (by omega) (by rw [Int.toNat_natCast, f3 _ _ (by omega), v0 _ _ (by omega) (by omega), y4, cs]) (by omega)
        have z0 : am_i ((0 : Nat) : Int) = am_i 0 := rfl
        rw [z0] at mSu
        rw [sg_X12_hourGoes_113]
        simp (disch := first | assumption | omega) only [rM hm, ly_csm, ly_cam, ly_cf, ly_kd, ly_ln, ↓Bool.cond_decide, cond_true, cond_false, ↓bI_p, ↓bV_p, ↓bL_p, bIJ_s, bVJ_s, bLJ_s, ↓am_let_s, Nat.blt, Nat.ble, Bool.and_true, Bool.true_and, Bool.and_self, Int.cast_ofNat_Int, am_i_add, am_i_sub, am_i_mul, am_ok_i, am_i_cl, n_lt, n_le, n_eq, n_lt0, n_le0, n_0lt, n_0le, n_eq0, ne_eq, ↓reduceIte, not_true_eq_false, not_false_eq_true, and_true, true_and, and_false, false_and, eq_T, eq_F, lt_T, lt_F, le_T, le_F, qn_T, qn_F, and_F, b01_T, b01_F, e_isIn, Int32.toInt_toInt64, am_i_toInt, am_l_toInt, Int.toNat_natCast, Int.reduceToNat, Int.reduceAdd, Int.reduceSub, Int.reduceMul, Int.reduceNeg, Nat.reduceAdd, Nat.reduceMul, Nat.add_zero, Nat.mul_zero, Nat.zero_add, am_zb0, am_zb1, mSu]
        refine next I3 J2 (L ++ [(h, i, 1)]) sk (lm + 1) j2 (fun q k e => ?_) (wB I3 (fun q k e1 e2 => by rw [f3 _ _ (by omega), am_up_o (by omega)])) ?_ ?_ ?_ ?_ ?_ ?_ (fun e k hk => ?_) (fun e => k3' e)
        · rw [f3 q k (by omega), v0 q k (by omega) (by omega), g2 q k (by omega) (by omega) (by omega)]
        · rw [f3 _ _ (by omega), v0 _ _ (by omega) (by omega), g106, z2]
        · rw [show skB last wf fm u nt s i = false from decide_eq_false (fun e => by rw [ps, cs] at e; omega), if_neg (by simp)]
        · rw [f3 _ _ (by omega), v0 _ _ (by omega) (by omega), g2 _ _ (by omega) (by omega) (by omega)]; exact h60
        · rw [show laB last wf fm u nt s i = 1 from if_pos ⟨ho, by rw [pm]; exact cl⟩]; rfl
        · rw [f3 _ _ (by omega), am_up_e]
        · rw [show entB last wf fm u h nt s i = [(h, i, 1)] by unfold entB; rw [if_pos ho, if_pos (by rw [pm]; exact cl)]]
        · rw [t3 e k hk, v0 _ _ (by omega) (by omega), g2 _ _ (by omega) (by omega) (by omega)]
      · simp (disch := first | assumption | omega) only [rM hm, ly_csm, ly_cam, ly_cf, ly_kd, ly_ln, ↓Bool.cond_decide, cond_true, cond_false, ↓bI_p, ↓bV_p, ↓bL_p, bIJ_s, bVJ_s, bLJ_s, ↓am_let_s, Nat.blt, Nat.ble, Bool.and_true, Bool.true_and, Bool.and_self, Int.cast_ofNat_Int, am_i_add, am_i_sub, am_i_mul, am_ok_i, am_i_cl, n_lt, n_le, n_eq, n_lt0, n_le0, n_0lt, n_0le, n_eq0, ne_eq, ↓reduceIte, not_true_eq_false, not_false_eq_true, and_true, true_and, and_false, false_and, eq_T, eq_F, lt_T, lt_F, le_T, le_F, qn_T, qn_F, and_F, b01_T, b01_F, e_isIn, Int32.toInt_toInt64, am_i_toInt, am_l_toInt, Int.toNat_natCast, Int.reduceToNat, Int.reduceAdd, Int.reduceSub, Int.reduceMul, Int.reduceNeg, Nat.reduceAdd, Nat.reduceMul, Nat.add_zero, Nat.mul_zero, Nat.zero_add, am_zb0, am_zb1, pO, nM, y5', y96, n5, md, inz', am_up_o, mL, b01_f cl, am_i_s, sg_X12_hourGoes_113]
        by_cases cs : (bwS last wf fm (s i) ((s i).sc (s i).pl) u).su = 1
        · -- sunk
          have mSu := fun d => e_isSunk (d := d) (I := am_up I2 103 (5 + 11 * i) (am_i P)) (J := J2) (b := (i : Int)) (v := 1) hm (by omega) (by omega) (by rw [Int.toNat_natCast, w0 _ _ (by omega), y4, cs]) (by omega)
          have z1 : am_i ((1 : Nat) : Int) = am_i 1 := rfl
          rw [z1] at mSu
          have h60' : am_up I2 103 (5 + 11 * i) (am_i P) 64 60 = am_i sk := by rw [w0 _ _ (by omega), g2 _ _ (by omega) (by omega) (by omega)]; exact h60
          have skt : skB last wf fm u nt s i = true := decide_eq_true ⟨ho, by rw [ps]; exact cs⟩
          have lat : laB last wf fm u nt s i = 0 := if_neg (fun e => cl (by rw [← pm]; exact e.2))
          have ent' : entB last wf fm u h nt s i = [(h, i, 0)] := by unfold entB; rw [if_pos ho, if_neg (by rw [pm]; exact cl), if_pos (by rw [ps]; exact cs)]
          by_cases csk : sk = -1
          · simp (disch := first | assumption | omega) only [rM hm, ly_csm, ly_cam, ly_cf, ly_kd, ly_ln, ↓Bool.cond_decide, cond_true, cond_false, ↓bI_p, ↓bV_p, ↓bL_p, bIJ_s, bVJ_s, bLJ_s, ↓am_let_s, Nat.blt, Nat.ble, Bool.and_true, Bool.true_and, Bool.and_self, Int.cast_ofNat_Int, am_i_add, am_i_sub, am_i_mul, am_ok_i, am_i_cl, n_lt, n_le, n_eq, n_lt0, n_le0, n_0lt, n_0le, n_eq0, ne_eq, ↓reduceIte, not_true_eq_false, not_false_eq_true, and_true, true_and, and_false, false_and, eq_T, eq_F, lt_T, lt_F, le_T, le_F, qn_T, qn_F, and_F, b01_T, b01_F, e_isIn, Int32.toInt_toInt64, am_i_toInt, am_l_toInt, Int.toNat_natCast, Int.reduceToNat, Int.reduceAdd, Int.reduceSub, Int.reduceMul, Int.reduceNeg, Nat.reduceAdd, Nat.reduceMul, Nat.add_zero, Nat.mul_zero, Nat.zero_add, am_zb0, am_zb1, mSu, h60', csk, sg_X12_hourGoes_137]
            have v0 : ∀ q k, ¬ (q = 103 ∧ k = 5 + 11 * i) → ¬ (q = 64 ∧ k = 60) → am_up (am_up I2 103 (5 + 11 * i) (am_i P)) 64 60 (am_i (i : Int)) q k = I2 q k := fun q k e1 e2 => by rw [am_up_o e2, am_up_o e1]
            refine Wp_V (m_keptB0 (th := th) (L := L) (h := h) (b := i) hm (by rw [v0 _ _ (by omega) (by omega), g2 _ _ (by omega) (by omega) (by omega)]; exact h58) (by rw [v0 _ _ (by omega) (by omega), g2 _ _ (by omega) (by omega) (by omega)]; exact h0) (fun e => keptG_c (hK e) (fun k hk => by rw [v0 _ _ (by omega) (by omega), g2 _ _ (by omega) (by omega) (by omega)]))) ?_
            rintro _ _ ⟨I3, rfl, rfl, f3, t3, k3'⟩
            refine ⟨rfl, ?_⟩
            refine next I3 J2 (L ++ [(h, i, 0)]) i lm j2 (fun q k e => ?_) (wB I3 (fun q k e1 e2 => by rw [f3 _ _ (by omega), am_up_o (by omega)])) ?_ ?_ ?_ ?_ ?_ ?_ (fun e k hk => ?_) (fun e => k3' e)
            · rw [f3 q k (by omega), v0 q k (by omega) (by omega), g2 q k (by omega) (by omega) (by omega)]
            · rw [f3 _ _ (by omega), v0 _ _ (by omega) (by omega), g106, z2]
            · rw [skt, if_pos ⟨csk, rfl⟩]
            · rw [f3 _ _ (by omega), am_up_e]
            · rw [lat]; omega
            · rw [f3 _ _ (by omega), v0 _ _ (by omega) (by omega), g2 _ _ (by omega) (by omega) (by omega)]; exact h59
            · rw [ent']
            · rw [t3 e k hk, v0 _ _ (by omega) (by omega), g2 _ _ (by omega) (by omega) (by omega)]
          · simp (disch := first | assumption | omega) only [rM hm, ly_csm, ly_cam, ly_cf, ly_kd, ly_ln, ↓Bool.cond_decide, cond_true, cond_false, ↓bI_p, ↓bV_p, ↓bL_p, bIJ_s, bVJ_s, bLJ_s, ↓am_let_s, Nat.blt, Nat.ble, Bool.and_true, Bool.true_and, Bool.and_self, Int.cast_ofNat_Int, am_i_add, am_i_sub, am_i_mul, am_ok_i, am_i_cl, n_lt, n_le, n_eq, n_lt0, n_le0, n_0lt, n_0le, n_eq0, ne_eq, ↓reduceIte, not_true_eq_false, not_false_eq_true, and_true, true_and, and_false, false_and, eq_T, eq_F, lt_T, lt_F, le_T, le_F, qn_T, qn_F, and_F, b01_T, b01_F, e_isIn, Int32.toInt_toInt64, am_i_toInt, am_l_toInt, Int.toNat_natCast, Int.reduceToNat, Int.reduceAdd, Int.reduceSub, Int.reduceMul, Int.reduceNeg, Nat.reduceAdd, Nat.reduceMul, Nat.add_zero, Nat.mul_zero, Nat.zero_add, am_zb0, am_zb1, mSu, h60', sg_X12_hourGoes_137]
            refine Wp_V (m_keptB0 (th := th) (L := L) (h := h) (b := i) hm (by rw [w0 _ _ (by omega), g2 _ _ (by omega) (by omega) (by omega)]; exact h58) (by rw [w0 _ _ (by omega), g2 _ _ (by omega) (by omega) (by omega)]; exact h0) (fun e => keptG_c (hK e) (fun k hk => by rw [w0 _ _ (by omega), g2 _ _ (by omega) (by omega) (by omega)]))) ?_
            rintro _ _ ⟨I3, rfl, rfl, f3, t3, k3'⟩
            refine ⟨rfl, ?_⟩
            refine next I3 J2 (L ++ [(h, i, 0)]) sk lm j2 (fun q k e => ?_) (wB I3 (fun q k e1 e2 => by rw [f3 _ _ (by omega)])) ?_ ?_ ?_ ?_ ?_ ?_ (fun e k hk => ?_) (fun e => k3' e)
            · rw [f3 q k (by omega), w0 q k (by omega), g2 q k (by omega) (by omega) (by omega)]
            · rw [f3 _ _ (by omega), w0 _ _ (by omega), g106, z2]
            · rw [if_neg (fun e => csk e.1)]
            · rw [f3 _ _ (by omega)]; exact h60'
            · rw [lat]; omega
            · rw [f3 _ _ (by omega), w0 _ _ (by omega), g2 _ _ (by omega) (by omega) (by omega)]; exact h59
            · rw [ent']
            · rw [t3 e k hk, w0 _ _ (by omega), g2 _ _ (by omega) (by omega) (by omega)]
        · -- still out
          have cs0 : (bwS last wf fm (s i) ((s i).sc (s i).pl) u).su = 0 := by omega
          have mSu := fun d => e_isSunk (d := d) (I := am_up I2 103 (5 + 11 * i) (am_i P)) (J := J2) (b := (i : Int)) (v := 0) hm (by omega) (by omega) (by rw [Int.toNat_natCast, w0 _ _ (by omega), y4, cs0]) (by omega)
          have z0 : am_i ((0 : Nat) : Int) = am_i 0 := rfl
          rw [z0] at mSu
          simp (disch := first | assumption | omega) only [rM hm, ly_csm, ly_cam, ly_cf, ly_kd, ly_ln, ↓Bool.cond_decide, cond_true, cond_false, ↓bI_p, ↓bV_p, ↓bL_p, bIJ_s, bVJ_s, bLJ_s, ↓am_let_s, Nat.blt, Nat.ble, Bool.and_true, Bool.true_and, Bool.and_self, Int.cast_ofNat_Int, am_i_add, am_i_sub, am_i_mul, am_ok_i, am_i_cl, n_lt, n_le, n_eq, n_lt0, n_le0, n_0lt, n_0le, n_eq0, ne_eq, ↓reduceIte, not_true_eq_false, not_false_eq_true, and_true, true_and, and_false, false_and, eq_T, eq_F, lt_T, lt_F, le_T, le_F, qn_T, qn_F, and_F, b01_T, b01_F, e_isIn, Int32.toInt_toInt64, am_i_toInt, am_l_toInt, Int.toNat_natCast, Int.reduceToNat, Int.reduceAdd, Int.reduceSub, Int.reduceMul, Int.reduceNeg, Nat.reduceAdd, Nat.reduceMul, Nat.add_zero, Nat.mul_zero, Nat.zero_add, am_zb0, am_zb1, mSu]
          refine next _ J2 L sk lm j2 (fun q k e => ?_) (wB _ (fun q k e1 e2 => rfl)) ?_ ?_ ?_ ?_ ?_ ?_ (fun e k hk => ?_) (fun e => keptG_c (hK e) (fun k hk => ?_))
          · rw [w0 q k (by omega), g2 q k (by omega) (by omega) (by omega)]
          · rw [w0 _ _ (by omega), g106, z2]
          · rw [show skB last wf fm u nt s i = false from decide_eq_false (fun e => by rw [ps, cs0] at e; omega), if_neg (by simp)]
          · rw [w0 _ _ (by omega), g2 _ _ (by omega) (by omega) (by omega)]; exact h60
          · rw [show laB last wf fm u nt s i = 0 from if_neg (fun e => cl (by rw [← pm]; exact e.2))]; omega
          · rw [w0 _ _ (by omega), g2 _ _ (by omega) (by omega) (by omega)]; exact h59
          · rw [show entB last wf fm u h nt s i = [] by unfold entB; rw [if_pos ho, if_neg (by rw [pm]; exact cl), if_neg (by rw [ps]; exact cs)], List.append_nil]
          · rw [w0 _ _ (by omega), g2 _ _ (by omega) (by omega) (by omega)]
          · rw [w0 _ _ (by omega), g2 _ _ (by omega) (by omega) (by omega)]
    · have z1 : paS last wf fm u (nt i) (s i) = s i := by unfold paS; rw [if_neg ho]
      have z2 : noS last (nt i) (s i) = 8 := by unfold noS; rw [if_neg ho]
      have z3 : skB last wf fm u nt s i = false := decide_eq_false (fun e => ho e.1)
      have z4 : laB last wf fm u nt s i = 0 := if_neg (fun e => ho e.1)
      have z5 : entB last wf fm u h nt s i = [] := if_neg ho
      have fin : Wp _ (am_E (d + 7) 210 143 [(0, .ref 64), (1, .int (am_i u)), (2, .int (am_i i))] [] (am_up I 106 i (am_i 8), J, R, 138)) := next (am_up I 106 i (am_i 8)) J L sk lm (frJ_r _) (fun q k a => am_up_o (by omega)) (by rw [z1]; exact bX_i.mpr ⟨by rw [am_up_o (by omega)]; exact x1, by rw [am_up_o (by omega)]; exact x2, by rw [am_up_o (by omega)]; exact x3, by rw [am_up_o (by omega)]; exact x4, by rw [am_up_o (by omega)]; exact x5, fun k hk => by rw [am_up_o (by omega)]; exact x6 k hk⟩) (by rw [z2, am_up_e]; rfl) (by rw [z3, if_neg (by simp)]) (by rw [am_up_o (by omega)]; exact h60) (by rw [z4]; omega) (by rw [am_up_o (by omega)]; exact h59) (by rw [z5, List.append_nil]) (fun _ k _ => am_up_o (by omega)) (fun e => keptG_c (hK e) (fun k _ => am_up_o (by omega)))
      by_cases c : (s i).su = 0 ∧ (s i).mi ≠ last
      · have c0 : nt i = 0 := by
          apply Classical.byContradiction
          exact fun e => ho ⟨e, c⟩
        simp (disch := first | assumption | omega) only [rM hm, ly_csm, ly_cam, ly_cf, ly_kd, ly_ln, ↓Bool.cond_decide, cond_true, cond_false, ↓bI_p, ↓bV_p, ↓bL_p, bIJ_s, bVJ_s, bLJ_s, ↓am_let_s, Nat.blt, Nat.ble, Bool.and_true, Bool.true_and, Bool.and_self, Int.cast_ofNat_Int, am_i_add, am_i_sub, am_i_mul, am_ok_i, am_i_cl, n_lt, n_le, n_eq, n_lt0, n_le0, n_0lt, n_0le, n_eq0, ne_eq, ↓reduceIte, not_true_eq_false, not_false_eq_true, and_true, true_and, and_false, false_and, eq_T, eq_F, lt_T, lt_F, le_T, le_F, qn_T, qn_F, and_F, b01_T, b01_F, e_isIn, Int32.toInt_toInt64, am_i_toInt, am_l_toInt, Int.toNat_natCast, Int.reduceToNat, Int.reduceAdd, Int.reduceSub, Int.reduceMul, Int.reduceNeg, Nat.reduceAdd, Nat.reduceMul, Nat.add_zero, Nat.mul_zero, Nat.zero_add, am_zb0, am_zb1, e1, iO, b01_t c, nM, am_up_o, h96, c0]
        exact fin
      · simp (disch := first | assumption | omega) only [rM hm, ly_csm, ly_cam, ly_cf, ly_kd, ly_ln, ↓Bool.cond_decide, cond_true, cond_false, ↓bI_p, ↓bV_p, ↓bL_p, bIJ_s, bVJ_s, bLJ_s, ↓am_let_s, Nat.blt, Nat.ble, Bool.and_true, Bool.true_and, Bool.and_self, Int.cast_ofNat_Int, am_i_add, am_i_sub, am_i_mul, am_ok_i, am_i_cl, n_lt, n_le, n_eq, n_lt0, n_le0, n_0lt, n_0le, n_eq0, ne_eq, ↓reduceIte, not_true_eq_false, not_false_eq_true, and_true, true_and, and_false, false_and, eq_T, eq_F, lt_T, lt_F, le_T, le_F, qn_T, qn_F, and_F, b01_T, b01_F, e_isIn, Int32.toInt_toInt64, am_i_toInt, am_l_toInt, Int.toNat_natCast, Int.reduceToNat, Int.reduceAdd, Int.reduceSub, Int.reduceMul, Int.reduceNeg, Nat.reduceAdd, Nat.reduceMul, Nat.add_zero, Nat.mul_zero, Nat.zero_add, am_zb0, am_zb1, e1, iO, b01_f c]
        exact fin
def rwM (nb : Nat) (nt : Nat → Nat) (last h : Nat) (s : Nat → bt) (I : tI) : Prop := h ≤ 999 ∧ I 103 0 = am_i h ∧ ∀ b, b < nb → bOK last (nt b) (s b) ∧ bX (I 103) (1 + 11 * b) (nt b) (s b)
def hrS (last : Nat) (wf : Nat → Nat) (fm : Nat → List tok) (nt : Nat → Nat) (u : Nat) (s : Nat → bt) : Nat → bt := fun b => paS last wf fm u (nt b) (s b)
/-- what is so behind an hour -/
def mHq (nb : Nat) (nt : Nat → Nat) (last h : Nat) (wf : Nat → Nat) (fm : Nat → List tok) (u : Nat) (s : Nat → bt) (lm : Int) (th : Bool) (L : List ent) (I : tI) (J : tJ) (I' : tI) (J' : tJ) : Prop := frJ J J' ∧ (∀ q k, ¬ mHc q k → I' q k = I q k) ∧ rwM nb nt last (h + 1) (hrS last wf fm nt u s) I' ∧ (∀ b, b < nb → I' 106 b = am_i (noS last (nt b) (s b))) ∧ I' 64 60 = am_i (skF (skB last wf fm u nt s) 0 nb (-1)) ∧ I' 64 59 = am_i (lm + (cnt (laB last wf fm u nt s) 0 nb : Nat)) ∧ (th = true → ∀ k, 67 ≤ k → I' 103 k = I 103 k) ∧ (th = false → keptG (I' 103) (L ++ entF (entB last wf fm u h nt s) 0 nb))
theorem m_hour {I : tI} {L : List ent} {lm : Int} (hm : st_Rm R) (hu : u ≤ 9) (hX : cxM last wd nb nt wf fm I) (hh : h ≤ 998) (h58 : I 64 58 = am_i (if th = true then 1 else 0)) (hK : th = false → keptG (I 103) L) (hB : rwM nb nt last h s I) (h59 : I 64 59 = am_i lm) : Wp (fun r M => ∃ I' J', r = none ∧ M = (I', J', R, 138) ∧ mHq nb nt last h wf fm u s lm th L I J I' J') (am_E (d + 7) 210 0 [(0, .ref 64), (1, .int (am_i u))] [] (I, J, R, 138)) := by
  obtain ⟨h1, h2, h3⟩ := hB
  rw [sg_X12_hourGoes_0]
  simp (disch := first | assumption | omega) only [rM hm, ly_csm, ly_cam, ly_cf, ly_kd, ly_ln, ↓Bool.cond_decide, cond_true, cond_false, ↓bI_p, ↓bV_p, ↓bL_p, bIJ_s, bVJ_s, bLJ_s, ↓am_let_s, Nat.blt, Nat.ble, Bool.and_true, Bool.true_and, Bool.and_self, Int.cast_ofNat_Int]
  have g : ∀ q k, ¬ (q = 64 ∧ k = 60) → am_up I 64 60 (am_i (-1)) q k = I q k := fun q k e => am_up_o e
  refine Wp_m (m_hloop (th := th) (s := s) (h := h) (wd := wd) (nb := nb) (nt := nt) (wf := wf) (fm := fm) (last := last) hm hu hh (fun b hb => (h3 b hb).1) nb 0 (am_up I 64 60 (am_i (-1))) J L (-1) lm (by omega) (cxM_c (fun q k a1 a2 => g q k (by omega)) hX) (by rw [g _ _ (by omega)]; exact h58) (fun e => keptG_c (hK e) (fun k hk => g _ _ (by omega))) (by rw [g _ _ (by omega)]; exact h2) (fun b b1 b2 => ?_) (by omega) (by omega) am_up_e (by rw [g _ _ (by omega)]; exact h59)) ?_
  · obtain ⟨y1, y2, y3, y4, y5, y6⟩ := bX_i.mp (h3 b b2).2
    exact bX_i.mpr ⟨by rw [g _ _ (by omega)]; exact y1, by rw [g _ _ (by omega)]; exact y2, by rw [g _ _ (by omega)]; exact y3, by rw [g _ _ (by omega)]; exact y4, by rw [g _ _ (by omega)]; exact y5, fun k hk => by rw [g _ _ (by omega)]; exact y6 k hk⟩
  · rintro _ _ ⟨I', J', rfl, rfl, g1, g2, g3, g4, g5, g6, g7, g8, g9, g10⟩
    refine ⟨I', J', rfl, rfl, g1, fun q k e => ?_, ⟨by omega, g6, fun b hb => ⟨paS_ok (h3 b hb).1, (g5 b (by omega) hb).1⟩⟩, fun b hb => (g5 b (by omega) hb).2, g7, g8, fun e k hk => ?_, g10⟩
    · rw [g2 q k e, g q k (fun x => e (Or.inr (Or.inr ⟨x.1, by omega⟩)))]
    · rw [g9 e k hk, g _ _ (by omega)]
end HOUR
