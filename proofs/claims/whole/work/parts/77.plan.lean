/-! ===== plans ===== -/
def yF (bw : bt → Nat → bt) (x0 : bt) (f : Nat → Nat) : Nat → bt
  | 0 => x0
  | j + 1 => bw (yF bw x0 f j) (f j)
def aF (last : Nat) (bw : bt → Nat → bt) (x0 : bt) (f : Nat → Nat) : Nat → Bool
  | 0 => true
  | j + 1 => aF last bw x0 f j && decide ((yF bw x0 f j).su = 0 ∧ (yF bw x0 f j).mi ≠ last)
def pF (last : Nat) (bw : bt → Nat → bt) (x0 : bt) (tg : Nat) (f : Nat → Nat) (n : Nat) : Bool := aF last bw x0 f n && decide ((yF bw x0 f n).mi = tg ∧ (yF bw x0 f n).su = 0)
def plR (last : Nat) (bw : bt → Nat → bt) (x0 : bt) (tg : Nat) (N : Int) (g : Nat → Nat) : Prop :=
  (N = -1 ∧ ∀ m, m ≤ 5 → ∀ h : Nat → Nat, (∀ k, k < m → h k ≤ 7) → pF last bw x0 tg h m = false) ∨ ∃ n : Nat, N = n ∧ n ≤ 5 ∧ (∀ k, k < n → g k ≤ 7) ∧ pF last bw x0 tg g n = true ∧ (∀ h : Nat → Nat, (∀ k, k < n → h k ≤ 7) → pF last bw x0 tg h n = true → cdF 8 g n ≤ cdF 8 h n) ∧ ∀ m, m < n → ∀ h : Nat → Nat, (∀ k, k < m → h k ≤ 7) → pF last bw x0 tg h m = false
section PLP
variable {last tg : Nat} {bw : bt → Nat → bt} {x0 : bt} {f g : Nat → Nat}
theorem plR_u {N N' : Int} (h1 : plR last bw x0 tg N g) (h2 : plR last bw x0 tg N' f) : N = N' ∧ ∀ n : Nat, N = n → ∀ k, k < n → g k = f k := by
  rcases h1 with ⟨a1, a2⟩ | ⟨n, a1, a2, a3, a4, a5, a6⟩ <;> rcases h2 with ⟨b1, b2⟩ | ⟨m, b1, b2, b3, b4, b5, b6⟩
  · exact ⟨by omega, fun n e => by omega⟩
  · exact absurd (a2 m b2 f b3) (by rw [b4]; decide)
  · exact absurd (b2 n a2 g a3) (by rw [a4]; decide)
  · rcases Nat.lt_trichotomy n m with c | c | c
    · exact absurd (b6 n c g a3) (by rw [a4]; decide)
    · subst c
      refine ⟨by omega, fun n' e k hk => ?_⟩
      have e' : n' = n := by omega
      subst e'
      have l1 := a5 f b3 b4
      have l2 := b5 g a3 a4
      exact cdF_inj (B := 8) n' (fun k hk => by have := a3 k hk; omega) (fun k hk => by have := b3 k hk; omega) (by omega) k hk
    · exact absurd (a6 m c f b3) (by rw [b4]; decide)
theorem yF_c : ∀ j, (∀ k, k < j → f k = g k) → yF bw x0 f j = yF bw x0 g j
  | 0, _ => rfl
  | j + 1, e => by
    show bw (yF bw x0 f j) (f j) = bw (yF bw x0 g j) (g j)
    rw [yF_c j (fun k hk => e k (by omega)), e j (by omega)]
theorem aF_c : ∀ j, (∀ k, k < j → f k = g k) → aF last bw x0 f j = aF last bw x0 g j
  | 0, _ => rfl
  | j + 1, e => by
    show (aF last bw x0 f j && decide ((yF bw x0 f j).su = 0 ∧ (yF bw x0 f j).mi ≠ last)) = (aF last bw x0 g j && decide ((yF bw x0 g j).su = 0 ∧ (yF bw x0 g j).mi ≠ last))
    rw [aF_c j (fun k hk => e k (by omega)), yF_c j (fun k hk => e k (by omega))]
theorem pF_c (n : Nat) (e : ∀ k, k < n → f k = g k) : pF last bw x0 tg f n = pF last bw x0 tg g n := by
  unfold pF
  rw [aF_c n e, yF_c n e]
theorem aF_1 {j : Nat} : aF last bw x0 f (j + 1) = true ↔ aF last bw x0 f j = true ∧ (yF bw x0 f j).su = 0 ∧ (yF bw x0 f j).mi ≠ last := by
  show (aF last bw x0 f j && decide ((yF bw x0 f j).su = 0 ∧ (yF bw x0 f j).mi ≠ last)) = true ↔ _
  rw [Bool.and_eq_true, decide_eq_true_eq]
theorem aF_m : ∀ {n k : Nat}, k ≤ n → aF last bw x0 f n = true → aF last bw x0 f k = true
  | 0, k, h, e => by
    have : k = 0 := by omega
    subst this; rfl
  | n + 1, k, h, e => by
    by_cases c : k = n + 1
    · rw [c]; exact e
    · exact aF_m (n := n) (by omega) (aF_1.mp e).1
theorem pF_1 {n : Nat} : pF last bw x0 tg f n = true ↔ aF last bw x0 f n = true ∧ (yF bw x0 f n).mi = tg ∧ (yF bw x0 f n).su = 0 := by
  unfold pF
  rw [Bool.and_eq_true, decide_eq_true_eq]
theorem pF_0 {n : Nat} (h : ¬ (aF last bw x0 f n = true ∧ (yF bw x0 f n).mi = tg ∧ (yF bw x0 f n).su = 0)) : pF last bw x0 tg f n = false := by
  cases e : pF last bw x0 tg f n with
  | false => rfl
  | true => exact absurd (pF_1.mp e) h
end PLP
section PLM
variable {d : Nat} {R : tR} {last wd nb b nn tg n : Nat} {nt wf : Nat → Nat} {fm : Nat → List tok} {x0 : bt} {I0 : tI}
def bwF (last : Nat) (wf : Nat → Nat) (fm : Nat → List tok) (u : Nat) : bt → Nat → bt := fun y v => bwS last wf fm y v u
theorem thM_b {I I' : tI} (hb : b < 6) (ht : thM I0 I) (hf : fr (mB b) I I') : thM I0 I' := by
  obtain ⟨t1, t2, t3, t4⟩ := ht
  exact ⟨by rw [hf _ _ (mB_f.mpr (by omega))]; exact t1, fun k hk => by rw [hf _ _ (mB_f.mpr (by omega))]; exact t2 k hk, fun k hk => by rw [hf _ _ (mB_f.mpr (by omega))]; exact t3 k hk, fun q k h1 h2 h3 => by rw [hf _ _ (mB_f.mpr (by unfold sC at h1; omega))]; exact t4 q k h1 h2 h3⟩
theorem m_pl3 {f : Nat → Nat} (hm : st_Rm R) (hX : cxM last wd nb nt wf fm I0) (hb : b < nb) (hn : n ≤ 5) (htg : tg ≤ 60) : ∀ (m k : Nat) (I : tI) (J : tJ), k + m = n → thM I0 I → (∀ j, j < n → f j ≤ 7 ∧ I 107 j = am_i (f j)) → bX (I 103) (1 + 11 * b) nn (yF (bwF last wf fm wd) x0 f k) → bOK last nn (yF (bwF last wf fm wd) x0 f k) → aF last (bwF last wf fm wd) x0 f k = true → Wp (fun r M => ∃ I' J', r = some (.int (b01 (pF last (bwF last wf fm wd) x0 tg f n = true))) ∧ M = (I', J', R, 138) ∧ frJ J J' ∧ thM I0 I' ∧ (∀ j, I' 103 j = I0 103 j) ∧ ∀ j, I' 107 j = I 107 j) (am_E (d + 6) 232 3 [(0, .ref 64), (1, .int (am_i b)), (2, .int (am_i tg)), (3, .int (am_i n)), (4, .int (am_i k))] [] (I, J, R, 138))
  | m, k, I, J, hk, ht, hf, hB, hO, hA => by
    have hl := hX.2.1
    have h6 := hX.2.2.2.2.2.1
    have e93 : I 93 3 = am_i last := by rw [ht.2.2.2 _ _ (by unfold sC; omega) (by omega) (by omega)]; exact hX.1
    have e4 : I 93 4 = am_i wd := by rw [ht.2.2.2 _ _ (by unfold sC; omega) (by omega) (by omega)]; exact hX.2.2.1
    obtain ⟨y1, y2, y3, y4, y5, y6⟩ := bX_i.mp hB
    have f68 : pF last (bwF last wf fm wd) x0 tg f n = false → Wp (fun r M => ∃ I' J', r = some (.int (b01 (pF last (bwF last wf fm wd) x0 tg f n = true))) ∧ M = (I', J', R, 138) ∧ frJ J J' ∧ thM I0 I' ∧ (∀ j, I' 103 j = I0 103 j) ∧ ∀ j, I' 107 j = I 107 j) (am_E (d + 6) 232 68 [(0, .ref 64)] [] (I, J, R, 138)) := by
      intro e
      rw [sg_X12_isPlan_68, b01_ff e]
      simp (disch := first | assumption | omega) only [↓Bool.cond_decide, cond_true, cond_false, ↓am_let_s, ↓bI_p, bIJ_s, ↓bV_p, bVJ_s, ↓bL_p, bLJ_s, ly_cf, Bool.and_self, Bool.and_true]
      refine Wp_V (m_anew hm ht) ?_
      rintro _ _ ⟨I', rfl, rfl, t1, t2, t3⟩
      exact ⟨rfl, Wp_r ⟨I', J, rfl, rfl, frJ_r _, t1, t2, fun j => t3 _ _ (by omega)⟩⟩
    cases m with
    | zero =>
      have : k = n := by omega
      subst this
      have mi := fun d => e_mileOf (d := d) (I := I) (J := J) (R := R) (b := (b : Int)) hm (by omega) (by omega)
      have su := fun d => e_isSunk (d := d) (I := I) (J := J) (R := R) (b := (b : Int)) (v := (yF (bwF last wf fm wd) x0 f k).su) hm (by omega) (by omega) (by rw [Int.toNat_natCast]; exact y4) hO.2.2.2.1
      have m60 := hO.1
      have s1 := hO.2.2.2.1
      rw [sg_X12_isPlan_3]
      simp (disch := first | assumption | omega) only [rM hm, ly_csm, ly_cam, ly_cf, ly_kd, ly_ln, ↓Bool.cond_decide, cond_true, cond_false, ↓bI_p, ↓bV_p, ↓bL_p, bIJ_s, bVJ_s, bLJ_s, ↓am_let_s, Nat.blt, Nat.ble, Bool.and_true, Bool.true_and, Bool.and_self, Int.cast_ofNat_Int, am_i_add, am_i_sub, am_i_mul, am_ok_i, am_i_cl, n_lt, n_le, n_eq, n_lt0, n_le0, n_0lt, n_0le, n_eq0, ne_eq, ↓reduceIte, not_true_eq_false, not_false_eq_true, and_true, true_and, and_false, false_and, eq_T, eq_F, lt_T, lt_F, le_T, le_F, qn_T, qn_F, and_F, b01_T, b01_F, e_isIn, Int32.toInt_toInt64, am_i_toInt, am_l_toInt, Int.toNat_natCast, Int.reduceToNat, Int.reduceAdd, Int.reduceSub, Int.reduceMul, Int.reduceNeg, Nat.reduceAdd, Nat.reduceMul, Nat.add_zero, Nat.mul_zero, Nat.zero_add, am_zb0, am_zb1, sg_X12_isPlan_41, mi, y1, su]
      by_cases q : (yF (bwF last wf fm wd) x0 f k).mi = tg
      · by_cases q2 : (yF (bwF last wf fm wd) x0 f k).su = 0
        · simp (disch := first | assumption | omega) only [rM hm, ly_csm, ly_cam, ly_cf, ly_kd, ly_ln, ↓Bool.cond_decide, cond_true, cond_false, ↓bI_p, ↓bV_p, ↓bL_p, bIJ_s, bVJ_s, bLJ_s, ↓am_let_s, Nat.blt, Nat.ble, Bool.and_true, Bool.true_and, Bool.and_self, Int.cast_ofNat_Int, am_i_add, am_i_sub, am_i_mul, am_ok_i, am_i_cl, n_lt, n_le, n_eq, n_lt0, n_le0, n_0lt, n_0le, n_eq0, ne_eq, ↓reduceIte, not_true_eq_false, not_false_eq_true, and_true, true_and, and_false, false_and, eq_T, eq_F, lt_T, lt_F, le_T, le_F, qn_T, qn_F, and_F, b01_T, b01_F, e_isIn, Int32.toInt_toInt64, am_i_toInt, am_l_toInt, Int.toNat_natCast, Int.reduceToNat, Int.reduceAdd, Int.reduceSub, Int.reduceMul, Int.reduceNeg, Nat.reduceAdd, Nat.reduceMul, Nat.add_zero, Nat.mul_zero, Nat.zero_add, am_zb0, am_zb1, q, q2]
          rw [b01_tt (pF_1.mpr ⟨hA, q, q2⟩)]
          refine Wp_V (m_anew hm ht) ?_
          rintro _ _ ⟨I', rfl, rfl, t1, t2, t3⟩
          exact ⟨rfl, Wp_r ⟨I', J, rfl, rfl, frJ_r _, t1, t2, fun j => t3 _ _ (by omega)⟩⟩
        · simp (disch := first | assumption | omega) only [rM hm, ly_csm, ly_cam, ly_cf, ly_kd, ly_ln, ↓Bool.cond_decide, cond_true, cond_false, ↓bI_p, ↓bV_p, ↓bL_p, bIJ_s, bVJ_s, bLJ_s, ↓am_let_s, Nat.blt, Nat.ble, Bool.and_true, Bool.true_and, Bool.and_self, Int.cast_ofNat_Int, am_i_add, am_i_sub, am_i_mul, am_ok_i, am_i_cl, n_lt, n_le, n_eq, n_lt0, n_le0, n_0lt, n_0le, n_eq0, ne_eq, ↓reduceIte, not_true_eq_false, not_false_eq_true, and_true, true_and, and_false, false_and, eq_T, eq_F, lt_T, lt_F, le_T, le_F, qn_T, qn_F, and_F, b01_T, b01_F, e_isIn, Int32.toInt_toInt64, am_i_toInt, am_l_toInt, Int.toNat_natCast, Int.reduceToNat, Int.reduceAdd, Int.reduceSub, Int.reduceMul, Int.reduceNeg, Nat.reduceAdd, Nat.reduceMul, Nat.add_zero, Nat.mul_zero, Nat.zero_add, am_zb0, am_zb1]
          exact f68 (pF_0 (fun e => q2 e.2.2))
      · simp (disch := first | assumption | omega) only [rM hm, ly_csm, ly_cam, ly_cf, ly_kd, ly_ln, ↓Bool.cond_decide, cond_true, cond_false, ↓bI_p, ↓bV_p, ↓bL_p, bIJ_s, bVJ_s, bLJ_s, ↓am_let_s, Nat.blt, Nat.ble, Bool.and_true, Bool.true_and, Bool.and_self, Int.cast_ofNat_Int, am_i_add, am_i_sub, am_i_mul, am_ok_i, am_i_cl, n_lt, n_le, n_eq, n_lt0, n_le0, n_0lt, n_0le, n_eq0, ne_eq, ↓reduceIte, not_true_eq_false, not_false_eq_true, and_true, true_and, and_false, false_and, eq_T, eq_F, lt_T, lt_F, le_T, le_F, qn_T, qn_F, and_F, b01_T, b01_F, e_isIn, Int32.toInt_toInt64, am_i_toInt, am_l_toInt, Int.toNat_natCast, Int.reduceToNat, Int.reduceAdd, Int.reduceSub, Int.reduceMul, Int.reduceNeg, Nat.reduceAdd, Nat.reduceMul, Nat.add_zero, Nat.mul_zero, Nat.zero_add, am_zb0, am_zb1]
        exact f68 (pF_0 (fun e => q e.2.1))
    | succ m =>
      obtain ⟨f7, f107⟩ := hf k (by omega)
      have ou := fun d => m_isOut (d := d) (J := J) (I := I) (b := b) (mi := (yF (bwF last wf fm wd) x0 f k).mi) (su := (yF (bwF last wf fm wd) x0 f k).su) hm (by omega) hl (by have := hO.1; omega) hO.2.2.2.1 y1 y4 e93
      rw [sg_X12_isPlan_3]
      by_cases q : (yF (bwF last wf fm wd) x0 f k).su = 0 ∧ (yF (bwF last wf fm wd) x0 f k).mi ≠ last
      · simp (disch := first | assumption | omega) only [rM hm, ly_csm, ly_cam, ly_cf, ly_kd, ly_ln, ↓Bool.cond_decide, cond_true, cond_false, ↓bI_p, ↓bV_p, ↓bL_p, bIJ_s, bVJ_s, bLJ_s, ↓am_let_s, Nat.blt, Nat.ble, Bool.and_true, Bool.true_and, Bool.and_self, Int.cast_ofNat_Int, am_i_add, am_i_sub, am_i_mul, am_ok_i, am_i_cl, n_lt, n_le, n_eq, n_lt0, n_le0, n_0lt, n_0le, n_eq0, ne_eq, ↓reduceIte, not_true_eq_false, not_false_eq_true, and_true, true_and, and_false, false_and, eq_T, eq_F, lt_T, lt_F, le_T, le_F, qn_T, qn_F, and_F, b01_T, b01_F, e_isIn, Int32.toInt_toInt64, am_i_toInt, am_l_toInt, Int.toNat_natCast, Int.reduceToNat, Int.reduceAdd, Int.reduceSub, Int.reduceMul, Int.reduceNeg, Nat.reduceAdd, Nat.reduceMul, Nat.add_zero, Nat.mul_zero, Nat.zero_add, am_zb0, am_zb1, ou, b01_t q, f107, e4]
        refine Wp_V (m_bow (s := yF (bwF last wf fm wd) x0 f k) (v := f k) (u := wd) hm (by omega) (cxM_c (fun q k a1 a2 => ht.2.2.2 q k (by unfold sC; omega) (by omega) (by omega)) hX) hO hB (by omega) hX.2.2.2.1) ?_
        rintro _ _ ⟨I1, J1, rfl, rfl, g1, g2, g3⟩
        refine ⟨rfl, ?_⟩
        simp (disch := first | assumption | omega) only [↓Bool.cond_decide, cond_true, cond_false, ↓am_let_s, ↓bI_p, bIJ_s, ↓bV_p, bVJ_s, ↓bL_p, bLJ_s, ly_cf, Bool.and_self, Bool.and_true, am_i_add, am_i_sub, am_i_mul, am_ok_i, am_i_cl, n_lt, n_le, n_eq, n_lt0, n_le0, n_0lt, n_0le, n_eq0, ne_eq, ↓reduceIte, not_true_eq_false, not_false_eq_true, and_true, true_and, and_false, false_and, eq_T, eq_F, lt_T, lt_F, le_T, le_F, qn_T, qn_F, and_F, b01_T, b01_F, e_isIn, Int32.toInt_toInt64, am_i_toInt, am_l_toInt, Int.toNat_natCast, Int.reduceToNat, Int.reduceAdd, Int.reduceSub, Int.reduceMul, Int.reduceNeg, Nat.reduceAdd, Nat.reduceMul, Nat.add_zero, Nat.mul_zero, Nat.zero_add, am_zb0, am_zb1, am_i_s]
        refine Wp_m (m_pl3 (f := f) hm hX hb hn htg m (k + 1) I1 J1 (by omega) (thM_b (by omega) ht g1) (fun j hj => ⟨(hf j hj).1, by rw [g1 _ _ (mB_f.mpr (by omega))]; exact (hf j hj).2⟩) g3 (bwS_ok hO q.1) (aF_1.mpr ⟨hA, q⟩)) ?_
        rintro _ _ ⟨I', J', rfl, rfl, t1, t2, t3, t4⟩
        exact ⟨I', J', rfl, rfl, frJ_t g2 t1, t2, t3, fun j => by rw [t4 j, g1 _ _ (mB_f.mpr (by omega))]⟩
      · simp (disch := first | assumption | omega) only [rM hm, ly_csm, ly_cam, ly_cf, ly_kd, ly_ln, ↓Bool.cond_decide, cond_true, cond_false, ↓bI_p, ↓bV_p, ↓bL_p, bIJ_s, bVJ_s, bLJ_s, ↓am_let_s, Nat.blt, Nat.ble, Bool.and_true, Bool.true_and, Bool.and_self, Int.cast_ofNat_Int, am_i_add, am_i_sub, am_i_mul, am_ok_i, am_i_cl, n_lt, n_le, n_eq, n_lt0, n_le0, n_0lt, n_0le, n_eq0, ne_eq, ↓reduceIte, not_true_eq_false, not_false_eq_true, and_true, true_and, and_false, false_and, eq_T, eq_F, lt_T, lt_F, le_T, le_F, qn_T, qn_F, and_F, b01_T, b01_F, e_isIn, Int32.toInt_toInt64, am_i_toInt, am_l_toInt, Int.toNat_natCast, Int.reduceToNat, Int.reduceAdd, Int.reduceSub, Int.reduceMul, Int.reduceNeg, Nat.reduceAdd, Nat.reduceMul, Nat.add_zero, Nat.mul_zero, Nat.zero_add, am_zb0, am_zb1, ou, b01_f q, sg_X12_isPlan_41]
        exact f68 (pF_0 (fun e => q (aF_1.mp (aF_m (n := n) (k := k + 1) (by omega) e.1)).2))
theorem m_po33 (hm : st_Rm R) (hX : cxM last wd nb nt wf fm I0) (hb : b < nb) (hn : n ≤ 5) (htg : tg ≤ 60) (hB0 : bX (I0 103) (1 + 11 * b) nn x0) (hO : bOK last nn x0) (J0 : tJ) (Q : Option Value → am_Mem → Prop) (K1 : ∀ I' J', frJ J0 J' → thM I0 I' → (∀ j, I' 103 j = I0 103 j) → (∀ h : Nat → Nat, (∀ k, k < n → h k ≤ 7) → pF last (bwF last wf fm wd) x0 tg h n = false) → Wp Q (am_E (d + 7) 233 2 [(0, .ref 64), (1, .int (am_i b)), (2, .int (am_i tg)), (3, .int (am_i (n + 1 : Nat)))] [] (I', J', R, 138))) (K2 : ∀ I' J' (g : Nat → Nat), frJ J0 J' → thM I0 I' → (∀ j, I' 103 j = I0 103 j) → (∀ k, k < n → g k ≤ 7 ∧ I' 107 k = am_i (g k)) → pF last (bwF last wf fm wd) x0 tg g n = true → (∀ h : Nat → Nat, (∀ k, k < n → h k ≤ 7) → pF last (bwF last wf fm wd) x0 tg h n = true → cdF 8 g n ≤ cdF 8 h n) → Q (some (.int (am_i n))) (I', J', R, 138)) :
    ∀ (μ : Nat) (f : Nat → Nat) (I : tI) (J : tJ), cdF 8 f n + μ = cdF 8 (fun _ => 7) n → frJ J0 J → thM I0 I → (∀ j, I 103 j = I0 103 j) → (∀ k, k < n → f k ≤ 7 ∧ I 107 k = am_i (f k)) → (∀ h : Nat → Nat, (∀ k, k < n → h k ≤ 7) → cdF 8 h n < cdF 8 f n → pF last (bwF last wf fm wd) x0 tg h n = false) → Wp Q (am_E (d + 7) 233 33 [(0, .ref 64), (1, .int (am_i b)), (2, .int (am_i tg)), (3, .int (am_i n)), (4, .int (am_i 1))] [] (I, J, R, 138))
  | μ, f, I, J, hμ, hJ, ht, h103, hf, hno => by
    have hbx : bX (I 103) (1 + 11 * b) nn (yF (bwF last wf fm wd) x0 f 0) := by
      obtain ⟨y0, y1, y2, y3, y4, y5⟩ := hB0
      exact ⟨by rw [h103]; exact y0, by rw [h103]; exact y1, by rw [h103]; exact y2, by rw [h103]; exact y3, by rw [h103]; exact y4, fun k hk => by rw [h103]; exact y5 k hk⟩
    have h7 : ∀ h : Nat → Nat, (∀ k, k < n → h k ≤ 7) → ∀ k, k < n → h k < 8 := fun h hh k hk => by have := hh k hk; omega
    rw [sg_X12_planOf_33]
    simp (disch := first | assumption | omega) only [↓Bool.cond_decide, cond_true, cond_false, ↓am_let_s, ↓bI_p, bIJ_s, ↓bV_p, bVJ_s, ↓bL_p, bLJ_s, ly_cf, Bool.and_self, Bool.and_true, am_i_add, am_i_sub, am_i_mul, am_ok_i, am_i_cl, n_lt, n_le, n_eq, n_lt0, n_le0, n_0lt, n_0le, n_eq0, ne_eq, ↓reduceIte, not_true_eq_false, not_false_eq_true, and_true, true_and, and_false, false_and, eq_T, eq_F, lt_T, lt_F, le_T, le_F, qn_T, qn_F, and_F, b01_T, b01_F, e_isIn, Int32.toInt_toInt64, am_i_toInt, am_l_toInt, Int.toNat_natCast, Int.reduceToNat, Int.reduceAdd, Int.reduceSub, Int.reduceMul, Int.reduceNeg, Nat.reduceAdd, Nat.reduceMul, Nat.add_zero, Nat.mul_zero, Nat.zero_add, am_zb0, am_zb1, sg_X12_isPlan_0]
    refine Wp_I (m_pl3 (d := d) (x0 := x0) (nn := nn) (f := f) (tg := tg) hm hX hb hn htg n 0 I J (by omega) ht hf hbx hO rfl) ?_
    rintro _ _ ⟨I1, J1, rfl, rfl, t1, t2, t3, t4⟩
    refine ⟨_, rfl, ?_⟩
    have hf1 : ∀ k, k < n → f k ≤ 7 ∧ I1 107 k = am_i (f k) := fun k hk => ⟨(hf k hk).1, by rw [t4]; exact (hf k hk).2⟩
    by_cases q : pF last (bwF last wf fm wd) x0 tg f n = true
    · simp (disch := first | assumption | omega) only [↓Bool.cond_decide, cond_true, cond_false, ↓am_let_s, ↓bI_p, bIJ_s, ↓bV_p, bVJ_s, ↓bL_p, bLJ_s, ly_cf, Bool.and_self, Bool.and_true, am_i_add, am_i_sub, am_i_mul, am_ok_i, am_i_cl, n_lt, n_le, n_eq, n_lt0, n_le0, n_0lt, n_0le, n_eq0, ne_eq, ↓reduceIte, not_true_eq_false, not_false_eq_true, and_true, true_and, and_false, false_and, eq_T, eq_F, lt_T, lt_F, le_T, le_F, qn_T, qn_F, and_F, b01_T, b01_F, e_isIn, Int32.toInt_toInt64, am_i_toInt, am_l_toInt, Int.toNat_natCast, Int.reduceToNat, Int.reduceAdd, Int.reduceSub, Int.reduceMul, Int.reduceNeg, Nat.reduceAdd, Nat.reduceMul, Nat.add_zero, Nat.mul_zero, Nat.zero_add, am_zb0, am_zb1, b01_t q]
      refine Wp_r (K2 I1 J1 f (frJ_t hJ t1) t2 t3 hf1 q (fun h hh hp => ?_))
      by_cases c : cdF 8 f n ≤ cdF 8 h n
      · exact c
      · exact absurd hp (by rw [hno h hh (by omega)]; decide)
    · have nx := m_nx4 (d := d + 5) (J := J1) (R := R) (I0 := I1) (nb := 7) (n := n) (fo := f) hm (by omega) (by omega) (fun k hk => (hf k hk).1) n I1 (Nat.le_refl _) (fun _ _ _ => rfl) (fun j hj => (hf1 j hj).2) (fun j j1 j2 => absurd j2 (by omega))
      have hle : ∀ h : Nat → Nat, (∀ k, k < n → h k ≤ 7) → cdF 8 h n ≤ cdF 8 f n → pF last (bwF last wf fm wd) x0 tg h n = false := fun h hh hc => by
        by_cases c : cdF 8 h n = cdF 8 f n
        · rw [pF_c n (cdF_inj (B := 8) n (h7 h hh) (fun k hk => by have := (hf k hk).1; omega) c)]
          simpa using q
        · exact hno h hh (by omega)
      have thc : ∀ I2 : tI, (∀ q j, q ≠ 107 → I2 q j = I1 q j) → thM I0 I2 ∧ ∀ j, I2 103 j = I0 103 j := fun I2 e => by
        obtain ⟨s1, s2, s3, s4⟩ := t2
        exact ⟨⟨by rw [e _ _ (by omega)]; exact s1, fun k hk => by rw [e _ _ (by omega)]; exact s2 k hk, fun k hk => by rw [e _ _ (by omega)]; exact s3 k hk, fun q k a1 a2 a3 => by rw [e _ _ (by unfold sC at a1; omega)]; exact s4 q k a1 a2 a3⟩, fun j => by rw [e _ _ (by omega)]; exact t3 j⟩
      obtain ⟨I2, i2, ⟨e0, p1⟩ | ⟨e1, f', p1, p2⟩⟩ := nx
      · have e0' : am_E (d + 6) 231 4 [(0, .ref 64), (2, .int (am_i 7)), (3, .int (am_i ((n : Int) - 1)))] [] (I1, J1, R, 138) = _ := e0
        simp (disch := first | assumption | omega) only [↓Bool.cond_decide, cond_true, cond_false, ↓am_let_s, ↓bI_p, bIJ_s, ↓bV_p, bVJ_s, ↓bL_p, bLJ_s, ly_cf, Bool.and_self, Bool.and_true, am_i_add, am_i_sub, am_i_mul, am_ok_i, am_i_cl, n_lt, n_le, n_eq, n_lt0, n_le0, n_0lt, n_0le, n_eq0, ne_eq, ↓reduceIte, not_true_eq_false, not_false_eq_true, and_true, true_and, and_false, false_and, eq_T, eq_F, lt_T, lt_F, le_T, le_F, qn_T, qn_F, and_F, b01_T, b01_F, e_isIn, Int32.toInt_toInt64, am_i_toInt, am_l_toInt, Int.toNat_natCast, Int.reduceToNat, Int.reduceAdd, Int.reduceSub, Int.reduceMul, Int.reduceNeg, Nat.reduceAdd, Nat.reduceMul, Nat.add_zero, Nat.mul_zero, Nat.zero_add, am_zb0, am_zb1, b01_f q, sg_X12_isNextRow_0, e0', sg_X12_planOf_33, am_i_s]
        obtain ⟨w1, w2⟩ := thc I2 i2
        exact K1 I2 J1 (frJ_t hJ t1) w1 w2 (fun h hh => hle h hh (cdF_le n (fun k hk => by rw [p1 k hk]; exact hh k hk)))
      · have e1' : am_E (d + 6) 231 4 [(0, .ref 64), (2, .int (am_i 7)), (3, .int (am_i ((n : Int) - 1)))] [] (I1, J1, R, 138) = _ := e1
        simp (disch := first | assumption | omega) only [↓Bool.cond_decide, cond_true, cond_false, ↓am_let_s, ↓bI_p, bIJ_s, ↓bV_p, bVJ_s, ↓bL_p, bLJ_s, ly_cf, Bool.and_self, Bool.and_true, am_i_add, am_i_sub, am_i_mul, am_ok_i, am_i_cl, n_lt, n_le, n_eq, n_lt0, n_le0, n_0lt, n_0le, n_eq0, ne_eq, ↓reduceIte, not_true_eq_false, not_false_eq_true, and_true, true_and, and_false, false_and, eq_T, eq_F, lt_T, lt_F, le_T, le_F, qn_T, qn_F, and_F, b01_T, b01_F, e_isIn, Int32.toInt_toInt64, am_i_toInt, am_l_toInt, Int.toNat_natCast, Int.reduceToNat, Int.reduceAdd, Int.reduceSub, Int.reduceMul, Int.reduceNeg, Nat.reduceAdd, Nat.reduceMul, Nat.add_zero, Nat.mul_zero, Nat.zero_add, am_zb0, am_zb1, b01_f q, sg_X12_isNextRow_0, e1']
        have top : cdF 8 f' n ≤ cdF 8 (fun _ => 7) n := cdF_le n (fun k hk => (p1 k hk).1)
        have p2' : cdF 8 f' n = cdF 8 f n + 1 := p2
        obtain ⟨μ', rfl⟩ : ∃ k, μ = k + 1 := ⟨μ - 1, by omega⟩
        obtain ⟨w1, w2⟩ := thc I2 i2
        exact m_po33 hm hX hb hn htg hB0 hO J0 Q K1 K2 μ' f' I2 J1 (by omega) (frJ_t hJ t1) w1 w2 p1 (fun h hh hc => hle h hh (by omega))
theorem m_po10 (hm : st_Rm R) (hn : n ≤ 5) : ∀ (m k : Nat) (I : tI) (J : tJ), k + m = n → (∀ j, j < k → I 107 j = am_i 0) → ∃ I', am_E (d + 1) 233 10 [(0, .ref 64), (1, .int (am_i b)), (2, .int (am_i tg)), (3, .int (am_i n)), (4, .int (am_i k))] [] (I, J, R, 138) = am_E (d + 1) 233 33 [(0, .ref 64), (1, .int (am_i b)), (2, .int (am_i tg)), (3, .int (am_i n)), (4, .int (am_i 1))] [] (I', J, R, 138) ∧ (∀ q j, q ≠ 107 → I' q j = I q j) ∧ ∀ j, j < n → I' 107 j = am_i 0
  | 0, k, I, J, hk, h0 => by
    refine ⟨I, ?_, fun _ _ _ => rfl, fun j hj => h0 j (by omega)⟩
    rw [sg_X12_planOf_10]
    simp (disch := first | assumption | omega) only [rM hm, ly_csm, ly_cam, ly_cf, ly_kd, ly_ln, ↓Bool.cond_decide, cond_true, cond_false, ↓bI_p, ↓bV_p, ↓bL_p, bIJ_s, bVJ_s, bLJ_s, ↓am_let_s, Nat.blt, Nat.ble, Bool.and_true, Bool.true_and, Bool.and_self, Int.cast_ofNat_Int, am_i_add, am_i_sub, am_i_mul, am_ok_i, am_i_cl, n_lt, n_le, n_eq, n_lt0, n_le0, n_0lt, n_0le, n_eq0, ne_eq, ↓reduceIte, not_true_eq_false, not_false_eq_true, and_true, true_and, and_false, false_and, eq_T, eq_F, lt_T, lt_F, le_T, le_F, qn_T, qn_F, and_F, b01_T, b01_F, e_isIn, Int32.toInt_toInt64, am_i_toInt, am_l_toInt, Int.toNat_natCast, Int.reduceToNat, Int.reduceAdd, Int.reduceSub, Int.reduceMul, Int.reduceNeg, Nat.reduceAdd, Nat.reduceMul, Nat.add_zero, Nat.mul_zero, Nat.zero_add, am_zb0, am_zb1]
  | m + 1, k, I, J, hk, h0 => by
    obtain ⟨I', p1, p2, p3⟩ := m_po10 hm hn m (k + 1) (am_up I 107 k (am_i 0)) J (by omega) (fun j hj => by
      by_cases c : j = k
      · rw [c, am_up_e]
      · rw [am_up_o (by omega)]; exact h0 j (by omega))
    refine ⟨I', ?_, fun q j e => by rw [p2 q j e, am_up_o (by omega)], p3⟩
    rw [← p1, sg_X12_planOf_10]
    simp (disch := first | assumption | omega) only [rM hm, ly_csm, ly_cam, ly_cf, ly_kd, ly_ln, ↓Bool.cond_decide, cond_true, cond_false, ↓bI_p, ↓bV_p, ↓bL_p, bIJ_s, bVJ_s, bLJ_s, ↓am_let_s, Nat.blt, Nat.ble, Bool.and_true, Bool.true_and, Bool.and_self, Int.cast_ofNat_Int, am_i_add, am_i_sub, am_i_mul, am_ok_i, am_i_cl, n_lt, n_le, n_eq, n_lt0, n_le0, n_0lt, n_0le, n_eq0, ne_eq, ↓reduceIte, not_true_eq_false, not_false_eq_true, and_true, true_and, and_false, false_and, eq_T, eq_F, lt_T, lt_F, le_T, le_F, qn_T, qn_F, and_F, b01_T, b01_F, e_isIn, Int32.toInt_toInt64, am_i_toInt, am_l_toInt, Int.toNat_natCast, Int.reduceToNat, Int.reduceAdd, Int.reduceSub, Int.reduceMul, Int.reduceNeg, Nat.reduceAdd, Nat.reduceMul, Nat.add_zero, Nat.mul_zero, Nat.zero_add, am_zb0, am_zb1, am_i_s]
theorem m_po2 (hm : st_Rm R) (hX : cxM last wd nb nt wf fm I0) (hb : b < nb) (htg : tg ≤ 60) (hB0 : bX (I0 103) (1 + 11 * b) nn x0) (hO : bOK last nn x0) (J0 : tJ) : ∀ (m n : Nat) (I : tI) (J : tJ), n + m = 6 → frJ J0 J → thM I0 I → (∀ j, I 103 j = I0 103 j) → (∀ m, m < n → ∀ h : Nat → Nat, (∀ k, k < m → h k ≤ 7) → pF last (bwF last wf fm wd) x0 tg h m = false) → Wp (fun r M => ∃ (I' : tI) (J' : tJ) (N : Int) (g : Nat → Nat), r = some (.int (am_i N)) ∧ M = (I', J', R, 138) ∧ frJ J0 J' ∧ thM I0 I' ∧ (∀ j, I' 103 j = I0 103 j) ∧ plR last (bwF last wf fm wd) x0 tg N g ∧ ∀ k : Nat, (k : Int) < N → I' 107 k = am_i (g k)) (am_E (d + 7) 233 2 [(0, .ref 64), (1, .int (am_i b)), (2, .int (am_i tg)), (3, .int (am_i n))] [] (I, J, R, 138))
  | 0, n, I, J, hn, hJ, ht, h103, hno => by
    rw [sg_X12_planOf_2]
    simp (disch := first | assumption | omega) only [rM hm, ly_csm, ly_cam, ly_cf, ly_kd, ly_ln, ↓Bool.cond_decide, cond_true, cond_false, ↓bI_p, ↓bV_p, ↓bL_p, bIJ_s, bVJ_s, bLJ_s, ↓am_let_s, Nat.blt, Nat.ble, Bool.and_true, Bool.true_and, Bool.and_self, Int.cast_ofNat_Int, am_i_add, am_i_sub, am_i_mul, am_ok_i, am_i_cl, n_lt, n_le, n_eq, n_lt0, n_le0, n_0lt, n_0le, n_eq0, ne_eq, ↓reduceIte, not_true_eq_false, not_false_eq_true, and_true, true_and, and_false, false_and, eq_T, eq_F, lt_T, lt_F, le_T, le_F, qn_T, qn_F, and_F, b01_T, b01_F, e_isIn, Int32.toInt_toInt64, am_i_toInt, am_l_toInt, Int.toNat_natCast, Int.reduceToNat, Int.reduceAdd, Int.reduceSub, Int.reduceMul, Int.reduceNeg, Nat.reduceAdd, Nat.reduceMul, Nat.add_zero, Nat.mul_zero, Nat.zero_add, am_zb0, am_zb1]
    exact Wp_r ⟨I, J, -1, fun _ => 0, rfl, rfl, hJ, ht, h103, Or.inl ⟨rfl, fun m hm => hno m (by omega)⟩, fun k hk => by omega⟩
  | m + 1, n, I, J, hn, hJ, ht, h103, hno => by
    obtain ⟨I1, p1, p2, p3⟩ := m_po10 (d := d + 6) (b := b) (tg := tg) (n := n) hm (by omega) n 0 I J (by omega) (fun j hj => absurd hj (by omega))
    have p1' : am_E (d + 7) 233 10 [(0, .ref 64), (1, .int (am_i b)), (2, .int (am_i tg)), (3, .int (am_i n)), (4, .int (am_i 0))] [] (I, J, R, 138) = _ := p1
    have th1 : thM I0 I1 := by
      obtain ⟨s1, s2, s3, s4⟩ := ht
      exact ⟨by rw [p2 _ _ (by omega)]; exact s1, fun k hk => by rw [p2 _ _ (by omega)]; exact s2 k hk, fun k hk => by rw [p2 _ _ (by omega)]; exact s3 k hk, fun q k a1 a2 a3 => by rw [p2 _ _ (by unfold sC at a1; omega)]; exact s4 q k a1 a2 a3⟩
    rw [sg_X12_planOf_2]
    simp (disch := first | assumption | omega) only [↓Bool.cond_decide, cond_true, cond_false, ↓am_let_s, ↓bI_p, bIJ_s, ↓bV_p, bVJ_s, ↓bL_p, bLJ_s, ly_cf, Bool.and_self, Bool.and_true, am_i_add, am_i_sub, am_i_mul, am_ok_i, am_i_cl, n_lt, n_le, n_eq, n_lt0, n_le0, n_0lt, n_0le, n_eq0, ne_eq, ↓reduceIte, not_true_eq_false, not_false_eq_true, and_true, true_and, and_false, false_and, eq_T, eq_F, lt_T, lt_F, le_T, le_F, qn_T, qn_F, and_F, b01_T, b01_F, e_isIn, Int32.toInt_toInt64, am_i_toInt, am_l_toInt, Int.toNat_natCast, Int.reduceToNat, Int.reduceAdd, Int.reduceSub, Int.reduceMul, Int.reduceNeg, Nat.reduceAdd, Nat.reduceMul, Nat.add_zero, Nat.mul_zero, Nat.zero_add, am_zb0, am_zb1, p1']
    have c0 : cdF 8 (fun _ => 0) n = 0 := cdF_z n (fun _ _ => rfl)
    refine m_po33 (n := n) hm hX hb (by omega) htg hB0 hO J0 _ ?_ ?_ (cdF 8 (fun _ => 7) n) (fun _ => 0) I1 J (by rw [c0, Nat.zero_add]) hJ th1 (fun j => by rw [p2 _ _ (by omega)]; exact h103 j) (fun k hk => ⟨by omega, p3 k hk⟩) (fun h hh hc => by rw [c0] at hc; omega)
    · intro I' J' k1 k2 k3 k4
      refine m_po2 hm hX hb htg hB0 hO J0 m (n + 1) I' J' (by omega) k1 k2 k3 (fun m' hm' => ?_)
      by_cases c : m' = n
      · rw [c]; exact k4
      · exact hno m' (by omega)
    · intro I' J' g k1 k2 k3 k4 k5 k6
      exact ⟨I', J', n, g, rfl, rfl, k1, k2, k3, Or.inr ⟨n, rfl, by omega, fun k hk => (k4 k hk).1, k5, k6, hno⟩, fun k hk => (k4 k (by omega)).2⟩
end PLM
