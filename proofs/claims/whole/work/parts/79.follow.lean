/-! ===== plans: the class follows rows ===== -/
def pkE (e : qent) : Nat := e.2.2 * 8192 + e.1 * 128 + e.2.1
def plM (nn : Nat) (x0 : bt) (j t e : Nat) (E : Nat → qent) (I0 I : tI) (J0 J : tJ) : Prop :=
  (I 35 6 = am_i x0.pl ∧ I 35 7 = am_i nn ∧ ∀ k, k < nn → I 41 k = am_i (x0.sc k)) ∧ I 49 1 = am_i t ∧ I 49 3 = am_i (j + 1 : Nat) ∧ (∀ q, q < t → (E q).1 ≤ 60 ∧ (E q).2.1 ≤ 99 ∧ (E q).2.2 < 4096 ∧ I 50 q = am_i (pkE (E q))) ∧ (∀ m ti, m ≤ 60 → ti ≤ 99 → (b64 (J 51 (2 * m + ti / 64)) (ti % 64) = true ↔ ∃ q, e ≤ q ∧ q < t ∧ (E q).1 = m ∧ (E q).2.1 = ti)) ∧ (∀ q k, ¬ (35 ≤ q ∧ q ≤ 41) → q ≠ 49 → q ≠ 50 → I q k = I0 q k) ∧ ∀ q k, q ≠ 51 → J q k = J0 q k
section FOL
variable {d : Nat} {R : tR} {c last wd nn tg a e j i : Nat} {wf : Nat → Nat} {fm : Nat → List tok} {x0 : bt} {I0 : tI} {J0 : tJ}
theorem n_0sub (x : Int) : (0 : Int32) - am_i x = am_i (-x) := by
  have : (0 : Int32) = am_i 0 := rfl
  rw [this, am_i_sub]
  congr 1
  omega
theorem bwF_ok : bwOK last (bwF last wf fm wd) := by
  intro y v
  refine ⟨rfl, rfl, rfl, fun h => ?_⟩
  have m := miS_b (last := last) (wf := wf) (fm := fm) (s := y) (v := v) (u := wd)
  have r := rcS_b (wf := wf) (fm := fm) (s := y) (v := v) (u := wd)
  have e : (bwF last wf fm wd y v).mi = miS last wf fm y v wd := rfl
  rw [e]
  obtain ⟨m1, m2⟩ := m
  unfold clZ at m1
  split at m1
  · omega
  · split at m1 <;> omega
theorem x_app {I : tI} {J : tJ} {mi ti t rw' : Nat} (hx : st_Rx R) (hmi : mi ≤ 60) (hti : ti ≤ 99) (ht : t < 4681) (h2 : I 35 2 = am_i mi) (h3 : I 35 3 = am_i ti) (h1 : I 49 1 = am_i t) : am_E (d + 2) 68 0 [(0, .ref 49), (1, .ref 35), (2, .int (am_i rw'))] [] (I, J, R, 138) = if b64 (J 51 (2 * mi + ti / 64)) (ti % 64) = true then some (none, (I, J, R, 138)) else some (none, (am_up (am_up I 50 t (am_i (rw' * 8192 + mi * 128 + ti : Nat))) 49 1 (am_i (t + 1 : Nat)), am_up J 51 (2 * mi + ti / 64) (J 51 (2 * mi + ti / 64) ||| (am_l 1 <<< ((am_i ((ti % 64 : Nat) : Int)).toInt64 &&& 63))), R, 138)) := by
  have nz : (!am_i 64 == 0) = true := by decide
  have ed : am_i (ti : Int) / am_i 64 = am_i ((ti / 64 : Nat) : Int) := dvN (a := ti) (b := 64) (by omega) (by omega)
  have em : (ti : Int) - ((ti / 64 : Nat) : Int) * 64 = ((ti % 64 : Nat) : Int) := by omega
  have ei : ((mi : Int) * 2 + ((ti / 64 : Nat) : Int)).toNat = 2 * mi + ti / 64 := by omega
  have pk := pk_i (r := rw') (m := mi) (t := ti) (by omega) (by omega)
  have u1 : am_up I 50 t (am_i (rw' * 8192 + mi * 128 + ti : Nat)) 49 1 = am_i t := by rw [am_up_o (by omega)]; exact h1
  have hb : ti % 64 < 64 := by omega
  rw [sg_X8_append_0]
  by_cases q : b64 (J 51 (2 * mi + ti / 64)) (ti % 64) = true
  · rw [if_pos q]
    have q' : ¬ b64 (J 51 (2 * mi + ti / 64)) (ti % 64) = false := by rw [q]; decide
    have z : (lg_cmp (J 51 (2 * mi + ti / 64) &&& (am_l 1 <<< ((am_i ((ti % 64 : Nat) : Int)).toInt64 &&& 63))) (am_l 0) = 0) = False := by rw [b64_0 hb]; exact eq_false q'
    simp (disch := first | assumption | omega) only [rX hx, ly_csx, ly_cax, ly_cf, ly_kd, ly_ln, ↓Bool.cond_decide, cond_true, cond_false, ↓bI_p, ↓bV_p, ↓bL_p, bIJ_s, bVJ_s, bLJ_s, ↓am_let_s, Nat.blt, Nat.ble, Bool.and_true, Bool.true_and, Bool.and_self, Int.cast_ofNat_Int, nz, h2, h3, h1, ed, am_i_add, am_i_sub, am_i_mul, am_ok_i, am_i_cl, n_lt, n_le, n_eq, n_lt0, n_le0, n_0lt, n_0le, n_eq0, ne_eq, ↓reduceIte, not_true_eq_false, not_false_eq_true, and_true, true_and, and_false, false_and, eq_T, eq_F, lt_T, lt_F, le_T, le_F, qn_T, qn_F, and_F, b01_T, b01_F, e_isIn, Int32.toInt_toInt64, am_i_toInt, am_l_toInt, Int.toNat_natCast, Int.reduceToNat, Int.reduceAdd, Int.reduceSub, Int.reduceMul, Int.reduceNeg, Nat.reduceAdd, Nat.reduceMul, Nat.add_zero, Nat.mul_zero, Nat.zero_add, am_zb0, am_zb1, em, ei, z]
  · rw [if_neg q]
    have q' : b64 (J 51 (2 * mi + ti / 64)) (ti % 64) = false := by simpa using q
    have z : (lg_cmp (J 51 (2 * mi + ti / 64) &&& (am_l 1 <<< ((am_i ((ti % 64 : Nat) : Int)).toInt64 &&& 63))) (am_l 0) = 0) = True := by rw [b64_0 hb]; exact eq_true q'
    simp (disch := first | assumption | omega) only [rX hx, ly_csx, ly_cax, ly_cf, ly_kd, ly_ln, ↓Bool.cond_decide, cond_true, cond_false, ↓bI_p, ↓bV_p, ↓bL_p, bIJ_s, bVJ_s, bLJ_s, ↓am_let_s, Nat.blt, Nat.ble, Bool.and_true, Bool.true_and, Bool.and_self, Int.cast_ofNat_Int, nz, h2, h3, h1, ed, am_i_add, am_i_sub, am_i_mul, am_ok_i, am_i_cl, n_lt, n_le, n_eq, n_lt0, n_le0, n_0lt, n_0le, n_eq0, ne_eq, ↓reduceIte, not_true_eq_false, not_false_eq_true, and_true, true_and, and_false, false_and, eq_T, eq_F, lt_T, lt_F, le_T, le_F, qn_T, qn_F, and_F, b01_T, b01_F, e_isIn, Int32.toInt_toInt64, am_i_toInt, am_l_toInt, Int.toNat_natCast, Int.reduceToNat, Int.reduceAdd, Int.reduceSub, Int.reduceMul, Int.reduceNeg, Nat.reduceAdd, Nat.reduceMul, Nat.add_zero, Nat.mul_zero, Nat.zero_add, am_zb0, am_zb1, em, ei, z, sg_X8_pack_0, pk, u1, am_i_s]
theorem plM_h {t : Nat} {E : Nat → qent} {I I' : tI} {J : tJ} (h : plM nn x0 j t e E I0 I J0 J) (hI : ∀ q k, ¬ (35 ≤ q ∧ q ≤ 41) → I' q k = I q k) (h1 : I' 35 6 = am_i x0.pl) (h2 : I' 35 7 = am_i nn) (h3 : ∀ k, k < nn → I' 41 k = am_i (x0.sc k)) : plM nn x0 j t e E I0 I' J0 J := by
  obtain ⟨-, a2, a3, a4, a5, a6, a7⟩ := h
  exact ⟨⟨h1, h2, h3⟩, by rw [hI _ _ (by omega)]; exact a2, by rw [hI _ _ (by omega)]; exact a3, fun q hq => ⟨(a4 q hq).1, (a4 q hq).2.1, (a4 q hq).2.2.1, by rw [hI _ _ (by omega)]; exact (a4 q hq).2.2.2⟩, a5, fun q k b1 b2 b3 => by rw [hI _ _ b1]; exact a6 q k b1 b2 b3, a7⟩
def folQ (last : Nat) (bw : bt → Nat → bt) (x0 : bt) (tg nn a e j i : Nat) (R : tR) (I0 : tI) (J0 : tJ) (E : Nat → qent) (r : Option Value) (M : am_Mem) : Prop := ∃ (I' : tI) (J' : tJ), M = (I', J', R, 138) ∧ (∀ q k, ¬ (35 ≤ q ∧ q ≤ 41) → q ≠ 49 → q ≠ 50 → I' q k = I0 q k) ∧ (∀ q k, q ≠ 51 → J' q k = J0 q k) ∧
  ((r = some (.int (am_i 1)) ∧ I' 49 3 = am_i (j + 1 : Nat) ∧ ∃ g : Nat → Nat, (∀ k, k < j + 1 → g k ≤ 7) ∧ pF last bw x0 tg g (j + 1) = true ∧ (∀ h : Nat → Nat, (∀ k, k < j + 1 → h k ≤ 7) → pF last bw x0 tg h (j + 1) = true → cdF 8 g (j + 1) ≤ cdF 8 h (j + 1)) ∧ I' 49 4 = am_i (cdF 8 g (j + 1)))
  ∨ (r = some (.int (am_i 0)) ∧ ∃ (E' : Nat → qent) (t' : Nat), lyO last bw x0 tg E' a e j ∧ nwS last bw x0 tg E' a e j i 8 t' ∧ e ≤ t' ∧ t' ≤ e + 8 * (i - a) + 8 ∧ plM nn x0 j t' e E' I0 I' J0 J' ∧ ∀ q, q < e → E' q = E q))
theorem x_f29 (hx : st_Rx R) (hc : c = 10 ∨ c = 20) (hR : R 35 1 = c) (hX : cxX c last wd wf fm I0) (hO : bOK last nn x0) (htg : tg ≤ 60) (hj : j ≤ 4) (hcap : j ≤ 3 → e + 8 * (e - a) ≤ 4681) (hi : a ≤ i) (hie : i < e) (Ei : qent) : ∀ (m v t : Nat) (E : Nat → qent) (I : tI) (J : tJ), v + m = 8 → lyO last (bwF last wf fm wd) x0 tg E a e j → nwS last (bwF last wf fm wd) x0 tg E a e j i v t → e ≤ t → t ≤ e + 8 * (i - a) + v → plM nn x0 j t e E I0 I J0 J → E i = Ei → Wp (folQ last (bwF last wf fm wd) x0 tg nn a e j i R I0 J0 E) (am_E (d + 6) 67 29 [(0, .ref 49), (1, .ref 35), (2, .int (am_i wd)), (3, .int (am_i tg)), (5, .int (am_i (x0.ro - j : Nat))), (6, .int (am_i (pkE Ei))), (7, .int (am_i v))] [] (I, J, R, 138))
  | 0, v, t, E, I, J, hv, hL, hN, h1, h2, hM, hE => by
    have : v = 8 := by omega
    subst this
    rw [sg_X8_follow_29]
    simp (disch := first | assumption | omega) only [am_i_add, am_i_sub, am_i_mul, am_ok_i, am_i_cl, n_lt, n_le, n_eq, n_lt0, n_le0, n_0lt, n_0le, n_eq0, ne_eq, ↓reduceIte, not_true_eq_false, not_false_eq_true, and_true, true_and, and_false, false_and, eq_T, eq_F, lt_T, lt_F, le_T, le_F, qn_T, qn_F, and_F, b01_T, b01_F, e_isIn, Int32.toInt_toInt64, am_i_toInt, am_l_toInt, Int.toNat_natCast, Int.reduceToNat, Int.reduceAdd, Int.reduceSub, Int.reduceMul, Int.reduceNeg, Nat.reduceAdd, Nat.reduceMul, Nat.add_zero, Nat.mul_zero, Nat.zero_add, am_zb0, am_zb1, ↓Bool.cond_decide, cond_true, cond_false, ↓am_let_s, ↓bI_p, bIJ_s, ↓bV_p, bVJ_s, ↓bL_p, bLJ_s, ly_cf, Bool.and_self, Bool.and_true]
    exact Wp_r ⟨I, J, rfl, hM.2.2.2.2.2.1, hM.2.2.2.2.2.2, Or.inr ⟨rfl, E, t, hL, hN, h1, h2, hM, fun _ _ => rfl⟩⟩
  | m + 1, v, t, E, I, J, hv, hL, hN, h1, h2, hM, hE => by
    have hw : bwOK last (bwF last wf fm wd) := bwF_ok
    have hl := hX.2.1
    obtain ⟨⟨p1, p2, p3⟩, p4, p5, p6, p7, p8, p9⟩ := hM
    obtain ⟨e1, e2, e3, e4⟩ := p6 i (by omega)
    have hml : (E i).1 ≤ last := by
      obtain ⟨f, -, -, -, f4⟩ := hL.1 i hi hie
      have := yF_l (x0 := x0) hw hO.1 f j
      rw [f4] at this
      exact this
    have hP : pkE Ei < 2147483648 := by rw [← hE]; unfold pkE; omega
    have um : pkE Ei / 128 % 64 = (E i).1 := by rw [← hE]; unfold pkE; omega
    have ut : pkE Ei % 128 = (E i).2.1 := by rw [← hE]; unfold pkE; omega
    have uc : pkE Ei / 8192 = (E i).2.2 := by rw [← hE]; unfold pkE; omega
    have m1 := up_m hP
    have m2 := up_t (P := pkE Ei)
    have m3 := up_c (P := pkE Ei) (v := v) hP (by omega)
    rw [um] at m1
    rw [ut] at m2
    rw [uc] at m3
    have yOK : bOK last nn (eS x0 (E i) j) := by
      obtain ⟨k1, k2, k3, k4, k5, k6, k7⟩ := hO
      exact ⟨hml, e2, by show x0.ro - j ≤ 99; omega, by show 0 ≤ 1; omega, k5, by intro h; exact absurd h (by show ¬ (0 = 1); omega), k7⟩
    rw [sg_X8_follow_29]
    simp (disch := first | assumption | omega) only [am_i_add, am_i_sub, am_i_mul, am_ok_i, am_i_cl, n_lt, n_le, n_eq, n_lt0, n_le0, n_0lt, n_0le, n_eq0, ne_eq, ↓reduceIte, not_true_eq_false, not_false_eq_true, and_true, true_and, and_false, false_and, eq_T, eq_F, lt_T, lt_F, le_T, le_F, qn_T, qn_F, and_F, b01_T, b01_F, e_isIn, Int32.toInt_toInt64, am_i_toInt, am_l_toInt, Int.toNat_natCast, Int.reduceToNat, Int.reduceAdd, Int.reduceSub, Int.reduceMul, Int.reduceNeg, Nat.reduceAdd, Nat.reduceMul, Nat.add_zero, Nat.mul_zero, Nat.zero_add, am_zb0, am_zb1, ↓Bool.cond_decide, cond_true, cond_false, ↓am_let_s, ↓bI_p, bIJ_s, ↓bV_p, bVJ_s, ↓bL_p, bLJ_s, ly_cf, Bool.and_self, Bool.and_true, m1, m2, m3]
    have hH : hullR 35 (am_up (am_up (am_up (am_up I 35 2 (am_i (E i).1)) 35 3 (am_i (E i).2.1)) 35 4 (am_i (x0.ro - j : Nat))) 35 5 (am_i 0)) nn (eS x0 (E i) j) := ⟨by rw [am_up_o (by omega), am_up_o (by omega), am_up_o (by omega), am_up_e]; rfl, by rw [am_up_o (by omega), am_up_o (by omega), am_up_e]; rfl, by rw [am_up_o (by omega), am_up_e]; rfl, by rw [am_up_e]; rfl, by rw [am_up_o (by omega), am_up_o (by omega), am_up_o (by omega), am_up_o (by omega)]; exact p1, by rw [am_up_o (by omega), am_up_o (by omega), am_up_o (by omega), am_up_o (by omega)]; exact p2, fun k hk => by rw [am_up_o (by omega), am_up_o (by omega), am_up_o (by omega), am_up_o (by omega)]; exact p3 k hk⟩
    have g4 : ∀ q k, ¬ (35 ≤ q ∧ q ≤ 41) → am_up (am_up (am_up (am_up I 35 2 (am_i (E i).1)) 35 3 (am_i (E i).2.1)) 35 4 (am_i (x0.ro - j : Nat))) 35 5 (am_i 0) q k = I q k := fun q k h => by rw [am_up_o (by omega), am_up_o (by omega), am_up_o (by omega), am_up_o (by omega)]
    refine Wp_V (x_bow (d := d) (J := J) (s := eS x0 (E i) j) (v := v) (u := wd) hx (Or.inl rfl) hc hR (cxX_c hc (fun q k a1 a2 => by rw [g4 q k (by omega), p8 q k (by omega) (by omega) (by omega)]) hX) yOK hH (by omega) hX.2.2.2.1) ?_
    rintro _ _ ⟨I5, rfl, rfl, hf, hH5⟩
    refine ⟨rfl, ?_⟩
    have g5 : ∀ q k, ¬ (35 ≤ q ∧ q ≤ 41) → I5 q k = I q k := fun q k h => by rw [hf q k (hS_f.mpr (by omega)), g4 q k h]
    have zOK : bOK last nn (bwF last wf fm wd (eS x0 (E i) j) v) := bwS_ok yOK rfl
    obtain ⟨z2, z3, z4, z5, z6, z7, z8⟩ := hH5
    have hM5 : plM nn x0 j t e E I0 I5 J0 J := plM_h ⟨⟨p1, p2, p3⟩, p4, p5, p6, p7, p8, p9⟩ g5 z6 z7 z8
    have fin : ∀ (E' : Nat → qent) (t' : Nat) (I' : tI) (J' : tJ), lyO last (bwF last wf fm wd) x0 tg E' a e j → nwS last (bwF last wf fm wd) x0 tg E' a e j i (v + 1) t' → e ≤ t' → t' ≤ e + 8 * (i - a) + (v + 1) → plM nn x0 j t' e E' I0 I' J0 J' → (∀ q, q < e → E' q = E q) → Wp (folQ last (bwF last wf fm wd) x0 tg nn a e j i R I0 J0 E) (am_E (d + 6) 67 152 [(0, .ref 49), (1, .ref 35), (2, .int (am_i wd)), (3, .int (am_i tg)), (5, .int (am_i (x0.ro - j : Nat))), (6, .int (am_i (pkE Ei))), (7, .int (am_i v))] [] (I', J', R, 138)) := by
      intro E' t' I' J' a1 a2 a3 a4 a5 a6
      rw [sg_X8_follow_152]
      simp (disch := first | assumption | omega) only [am_i_add, am_i_sub, am_i_mul, am_ok_i, am_i_cl, n_lt, n_le, n_eq, n_lt0, n_le0, n_0lt, n_0le, n_eq0, ne_eq, ↓reduceIte, not_true_eq_false, not_false_eq_true, and_true, true_and, and_false, false_and, eq_T, eq_F, lt_T, lt_F, le_T, le_F, qn_T, qn_F, and_F, b01_T, b01_F, e_isIn, Int32.toInt_toInt64, am_i_toInt, am_l_toInt, Int.toNat_natCast, Int.reduceToNat, Int.reduceAdd, Int.reduceSub, Int.reduceMul, Int.reduceNeg, Nat.reduceAdd, Nat.reduceMul, Nat.add_zero, Nat.mul_zero, Nat.zero_add, am_zb0, am_zb1, ↓Bool.cond_decide, cond_true, cond_false, ↓am_let_s, ↓bI_p, bIJ_s, ↓bV_p, bVJ_s, ↓bL_p, bLJ_s, ly_cf, Bool.and_self, Bool.and_true, am_i_s]
      refine Wp_m (x_f29 hx hc hR hX hO htg hj hcap hi hie Ei m (v + 1) t' E' I' J' (by omega) a1 a2 a3 a4 a5 (by rw [a6 i hie]; exact hE)) ?_
      rintro r M ⟨I6, J6, q1, q2, q3, q4⟩
      refine ⟨I6, J6, q1, q2, q3, ?_⟩
      rcases q4 with q4 | ⟨q4, E6, t6, w1, w2, w3, w4, w5, w6⟩
      · exact Or.inl q4
      · exact Or.inr ⟨q4, E6, t6, w1, w2, w3, w4, w5, fun q hq => by rw [w6 q hq, a6 q hq]⟩
    have su1 := zOK.2.2.2.1
    have zl := zOK.1
    have zt := zOK.2.1
    have z5' : I5 35 5 = am_i (bwF last wf fm wd (eS x0 (E i) j) v).su := z5
    have z2' : I5 35 2 = am_i (bwF last wf fm wd (eS x0 (E i) j) v).mi := z2
    have z3' : I5 35 3 = am_i (bwF last wf fm wd (eS x0 (E i) j) v).ti := z3
    have q49 : I5 49 3 = am_i (j + 1 : Nat) := hM5.2.2.1
    have q491 : I5 49 1 = am_i t := hM5.2.1
    by_cases qs : (bwF last wf fm wd (eS x0 (E i) j) v).su = 0
    · rw [qs] at z5'
      have z0 : am_i ((0 : Nat) : Int) = am_i 0 := rfl
      by_cases qg : (bwF last wf fm wd (eS x0 (E i) j) v).mi = tg
      · rw [qg] at z2'
        simp (disch := first | assumption | omega) only [am_i_add, am_i_sub, am_i_mul, am_ok_i, am_i_cl, n_lt, n_le, n_eq, n_lt0, n_le0, n_0lt, n_0le, n_eq0, ne_eq, ↓reduceIte, not_true_eq_false, not_false_eq_true, and_true, true_and, and_false, false_and, eq_T, eq_F, lt_T, lt_F, le_T, le_F, qn_T, qn_F, and_F, b01_T, b01_F, e_isIn, Int32.toInt_toInt64, am_i_toInt, am_l_toInt, Int.toNat_natCast, Int.reduceToNat, Int.reduceAdd, Int.reduceSub, Int.reduceMul, Int.reduceNeg, Nat.reduceAdd, Nat.reduceMul, Nat.add_zero, Nat.mul_zero, Nat.zero_add, am_zb0, am_zb1, ↓Bool.cond_decide, cond_true, cond_false, ↓am_let_s, ↓bI_p, bIJ_s, ↓bV_p, bVJ_s, ↓bL_p, bLJ_s, ly_cf, Bool.and_self, Bool.and_true, m3, z5', z0, z2']
        obtain ⟨g, g1, g2, g3, g4'⟩ := ly_n (hL.1 i hi hie) (v := v) (by omega)
        refine Wp_r ⟨_, J, rfl, fun q k b1 b2 b3 => ?_, p9, Or.inl ⟨rfl, ?_, g, g1, pF_1.mpr ⟨g3, by rw [g4']; exact qg, by rw [g4']; exact qs⟩, fun h hh hp => ?_, ?_⟩⟩
        · rw [am_up_o (by omega)]; exact hM5.2.2.2.2.2.1 q k b1 b2 b3
        · rw [am_up_o (by omega)]; exact q49
        · rw [g2]; exact nw_p hw hO.1 hL hj hN hi hie (by omega) hh hp
        · rw [am_up_e, g2]
      · have xl := fun d => x_landed (d := d) (J := J) (I := I5) (m := (bwF last wf fm wd (eS x0 (E i) j) v).mi) hx (Or.inl rfl) hc hR (by omega) hl z2' (by rw [g5 _ _ (by omega), p8 _ _ (by omega) (by omega) (by omega)]; exact hX.1)
        by_cases ql : (bwF last wf fm wd (eS x0 (E i) j) v).mi = last
        · have f := fin E t I5 J hL (nw_s hi hie (by omega) hN (fun _ => ⟨qg, fun k => absurd ql k⟩)) h1 (by omega) hM5 (fun _ _ => rfl)
          simp (disch := first | assumption | omega) only [am_i_add, am_i_sub, am_i_mul, am_ok_i, am_i_cl, n_lt, n_le, n_eq, n_lt0, n_le0, n_0lt, n_0le, n_eq0, ne_eq, ↓reduceIte, not_true_eq_false, not_false_eq_true, and_true, true_and, and_false, false_and, eq_T, eq_F, lt_T, lt_F, le_T, le_F, qn_T, qn_F, and_F, b01_T, b01_F, e_isIn, Int32.toInt_toInt64, am_i_toInt, am_l_toInt, Int.toNat_natCast, Int.reduceToNat, Int.reduceAdd, Int.reduceSub, Int.reduceMul, Int.reduceNeg, Nat.reduceAdd, Nat.reduceMul, Nat.add_zero, Nat.mul_zero, Nat.zero_add, am_zb0, am_zb1, ↓Bool.cond_decide, cond_true, cond_false, ↓am_let_s, ↓bI_p, bIJ_s, ↓bV_p, bVJ_s, ↓bL_p, bLJ_s, ly_cf, Bool.and_self, Bool.and_true, m3, z5', z0, z2', q49, xl, b01_t ql]
          exact f
        · by_cases qn : nrS tg (bwF last wf fm wd (eS x0 (E i) j) v).mi (4 - j)
          · have j3 : j ≤ 3 := by
              by_cases c : j ≤ 3
              · exact c
              · unfold nrS at qn
                exact absurd (by omega) qg
            have t46 : t < 4681 := by have := hcap j3; omega
            have ap := fun d => x_app (d := d) (R := R) (I := I5) (J := J) (rw' := (E i).2.2 * 8 + v) hx (by omega) zt t46 z2' z3' q491
            have cond : ((5 : Int) - ((j + 1 : Nat) : Int)) * 9 < (if tg ≤ (bwF last wf fm wd (eS x0 (E i) j) v).mi then ((bwF last wf fm wd (eS x0 (E i) j) v).mi : Int) - tg else -(((bwF last wf fm wd (eS x0 (E i) j) v).mi : Int) - tg)) → False := by
              unfold nrS at qn
              split <;> omega
            by_cases qb : b64 (J 51 (2 * (bwF last wf fm wd (eS x0 (E i) j) v).mi + (bwF last wf fm wd (eS x0 (E i) j) v).ti / 64)) ((bwF last wf fm wd (eS x0 (E i) j) v).ti % 64) = true
            · simp only [if_pos qb] at ap
              obtain ⟨q, k1, k2, k3, k4⟩ := (p7 _ _ (by omega) zt).mp qb
              have f := fin E t I5 J hL (nw_m hw hL hi hie (by omega) hN qs qg k1 k2 k3 k4) h1 (by omega) hM5 (fun _ _ => rfl)
              by_cases qd : tg ≤ (bwF last wf fm wd (eS x0 (E i) j) v).mi
              · rw [if_pos qd] at cond
                simp (disch := first | assumption | omega) only [am_i_add, am_i_sub, am_i_mul, am_ok_i, am_i_cl, n_lt, n_le, n_eq, n_lt0, n_le0, n_0lt, n_0le, n_eq0, ne_eq, ↓reduceIte, not_true_eq_false, not_false_eq_true, and_true, true_and, and_false, false_and, eq_T, eq_F, lt_T, lt_F, le_T, le_F, qn_T, qn_F, and_F, b01_T, b01_F, e_isIn, Int32.toInt_toInt64, am_i_toInt, am_l_toInt, Int.toNat_natCast, Int.reduceToNat, Int.reduceAdd, Int.reduceSub, Int.reduceMul, Int.reduceNeg, Nat.reduceAdd, Nat.reduceMul, Nat.add_zero, Nat.mul_zero, Nat.zero_add, am_zb0, am_zb1, ↓Bool.cond_decide, cond_true, cond_false, ↓am_let_s, ↓bI_p, bIJ_s, ↓bV_p, bVJ_s, ↓bL_p, bLJ_s, ly_cf, Bool.and_self, Bool.and_true, m3, z5', z0, z2', q49, xl, b01_f ql, ap]
                exact f
              · rw [if_neg qd] at cond
                simp (disch := first | assumption | omega) only [am_i_add, am_i_sub, am_i_mul, am_ok_i, am_i_cl, n_lt, n_le, n_eq, n_lt0, n_le0, n_0lt, n_0le, n_eq0, ne_eq, ↓reduceIte, not_true_eq_false, not_false_eq_true, and_true, true_and, and_false, false_and, eq_T, eq_F, lt_T, lt_F, le_T, le_F, qn_T, qn_F, and_F, b01_T, b01_F, e_isIn, Int32.toInt_toInt64, am_i_toInt, am_l_toInt, Int.toNat_natCast, Int.reduceToNat, Int.reduceAdd, Int.reduceSub, Int.reduceMul, Int.reduceNeg, Nat.reduceAdd, Nat.reduceMul, Nat.add_zero, Nat.mul_zero, Nat.zero_add, am_zb0, am_zb1, ↓Bool.cond_decide, cond_true, cond_false, ↓am_let_s, ↓bI_p, bIJ_s, ↓bV_p, bVJ_s, ↓bL_p, bLJ_s, ly_cf, Bool.and_self, Bool.and_true, m3, z5', z0, z2', q49, xl, b01_f ql, n_0sub, ap]
                exact f
            · simp only [if_neg qb] at ap
              have f := fin (fun q => if q = t then ((bwF last wf fm wd (eS x0 (E i) j) v).mi, (bwF last wf fm wd (eS x0 (E i) j) v).ti, (E i).2.2 * 8 + v) else E q) (t + 1) (am_up (am_up I5 50 t (am_i (((E i).2.2 * 8 + v) * 8192 + (bwF last wf fm wd (eS x0 (E i) j) v).mi * 128 + (bwF last wf fm wd (eS x0 (E i) j) v).ti : Nat))) 49 1 (am_i (t + 1 : Nat))) (am_up J 51 (2 * (bwF last wf fm wd (eS x0 (E i) j) v).mi + (bwF last wf fm wd (eS x0 (E i) j) v).ti / 64) (J 51 (2 * (bwF last wf fm wd (eS x0 (E i) j) v).mi + (bwF last wf fm wd (eS x0 (E i) j) v).ti / 64) ||| (am_l 1 <<< ((am_i (((bwF last wf fm wd (eS x0 (E i) j) v).ti % 64 : Nat) : Int)).toInt64 &&& 63)))) (ly_c (fun q hq => if_neg (by omega)) hL) (nw_a (E' := fun q => if q = t then ((bwF last wf fm wd (eS x0 (E i) j) v).mi, (bwF last wf fm wd (eS x0 (E i) j) v).ti, (E i).2.2 * 8 + v) else E q) hw hL hi hie (by omega) h1 hN qs qg ql (fun q hq => if_neg (by omega)) (if_pos rfl)) (by omega) (by omega) (by
                obtain ⟨r1, r2, r3, r4, r5, r6, r7⟩ := hM5
                refine ⟨⟨by rw [am_up_o (by omega), am_up_o (by omega)]; exact r1.1, by rw [am_up_o (by omega), am_up_o (by omega)]; exact r1.2.1, fun k hk => by rw [am_up_o (by omega), am_up_o (by omega)]; exact r1.2.2 k hk⟩, am_up_e, by rw [am_up_o (by omega), am_up_o (by omega)]; exact r3, fun q hq => ?_, fun m' ti' hm' hti' => ?_, fun q k b1 b2 b3 => by rw [am_up_o (by omega), am_up_o (by omega)]; exact r6 q k b1 b2 b3, fun q k b1 => by rw [am_up_o (by omega)]; exact r7 q k b1⟩
                · show (if q = t then _ else E q).1 ≤ 60 ∧ (if q = t then _ else E q).2.1 ≤ 99 ∧ (if q = t then _ else E q).2.2 < 4096 ∧ _ = am_i (pkE (if q = t then _ else E q))
                  by_cases cq : q = t
                  · rw [if_pos cq, am_up_o (by omega), cq, am_up_e]
                    refine ⟨by show (bwF last wf fm wd (eS x0 (E i) j) v).mi ≤ 60; omega, zt, ?_, rfl⟩
                    obtain ⟨g, gg1, gg2, -, -⟩ := ly_n (hL.1 i hi hie) (v := v) (by omega)
                    have gb := cd_b (f := g) (j + 1) gg1
                    rw [gg2] at gb
                    have pw : 8 ^ (j + 1) ≤ 4096 := by
                      have : j = 0 ∨ j = 1 ∨ j = 2 ∨ j = 3 := by omega
                      rcases this with rfl | rfl | rfl | rfl <;> decide
                    show (E i).2.2 * 8 + v < 4096
                    omega
                  · rw [if_neg cq, am_up_o (by omega), am_up_o (by omega)]
                    exact r4 q (by omega)
                · have hold := r5 m' ti' hm' hti'
                  have hex : (∃ q, e ≤ q ∧ q < t + 1 ∧ (if q = t then ((bwF last wf fm wd (eS x0 (E i) j) v).mi, (bwF last wf fm wd (eS x0 (E i) j) v).ti, (E i).2.2 * 8 + v) else E q).1 = m' ∧ (if q = t then ((bwF last wf fm wd (eS x0 (E i) j) v).mi, (bwF last wf fm wd (eS x0 (E i) j) v).ti, (E i).2.2 * 8 + v) else E q).2.1 = ti') ↔ ((∃ q, e ≤ q ∧ q < t ∧ (E q).1 = m' ∧ (E q).2.1 = ti') ∨ ((bwF last wf fm wd (eS x0 (E i) j) v).mi = m' ∧ (bwF last wf fm wd (eS x0 (E i) j) v).ti = ti')) := by
                    constructor
                    · rintro ⟨q, k1, k2, k3, k4⟩
                      by_cases cq : q = t
                      · rw [if_pos cq] at k3 k4
                        exact Or.inr ⟨k3, k4⟩
                      · rw [if_neg cq] at k3 k4
                        exact Or.inl ⟨q, k1, by omega, k3, k4⟩
                    · rintro (⟨q, k1, k2, k3, k4⟩ | ⟨k1, k2⟩)
                      · exact ⟨q, k1, by omega, by rw [if_neg (by omega)]; exact k3, by rw [if_neg (by omega)]; exact k4⟩
                      · exact ⟨t, h1, by omega, by rw [if_pos rfl]; exact k1, by rw [if_pos rfl]; exact k2⟩
                  refine Iff.trans ?_ hex.symm
                  generalize (bwF last wf fm wd (eS x0 (E i) j) v).mi = zm at *
                  generalize (bwF last wf fm wd (eS x0 (E i) j) v).ti = zi at *
                  by_cases cc : 2 * m' + ti' / 64 = 2 * zm + zi / 64
                  · rw [cc, am_up_e, b64_or (by omega), ← cc, Bool.or_eq_true, hold, decide_eq_true_eq]
                    have : zi % 64 = ti' % 64 ↔ zm = m' ∧ zi = ti' := by omega
                    rw [this]
                  · rw [am_up_o (by omega), hold]
                    constructor
                    · exact Or.inl
                    · rintro (k | ⟨rfl, rfl⟩)
                      · exact k
                      · exact absurd rfl cc) (fun q hq => if_neg (by omega))
              by_cases qd : tg ≤ (bwF last wf fm wd (eS x0 (E i) j) v).mi
              · rw [if_pos qd] at cond
                simp (disch := first | assumption | omega) only [am_i_add, am_i_sub, am_i_mul, am_ok_i, am_i_cl, n_lt, n_le, n_eq, n_lt0, n_le0, n_0lt, n_0le, n_eq0, ne_eq, ↓reduceIte, not_true_eq_false, not_false_eq_true, and_true, true_and, and_false, false_and, eq_T, eq_F, lt_T, lt_F, le_T, le_F, qn_T, qn_F, and_F, b01_T, b01_F, e_isIn, Int32.toInt_toInt64, am_i_toInt, am_l_toInt, Int.toNat_natCast, Int.reduceToNat, Int.reduceAdd, Int.reduceSub, Int.reduceMul, Int.reduceNeg, Nat.reduceAdd, Nat.reduceMul, Nat.add_zero, Nat.mul_zero, Nat.zero_add, am_zb0, am_zb1, ↓Bool.cond_decide, cond_true, cond_false, ↓am_let_s, ↓bI_p, bIJ_s, ↓bV_p, bVJ_s, ↓bL_p, bLJ_s, ly_cf, Bool.and_self, Bool.and_true, m3, z5', z0, z2', q49, xl, b01_f ql, ap]
                exact f
              · rw [if_neg qd] at cond
                simp (disch := first | assumption | omega) only [am_i_add, am_i_sub, am_i_mul, am_ok_i, am_i_cl, n_lt, n_le, n_eq, n_lt0, n_le0, n_0lt, n_0le, n_eq0, ne_eq, ↓reduceIte, not_true_eq_false, not_false_eq_true, and_true, true_and, and_false, false_and, eq_T, eq_F, lt_T, lt_F, le_T, le_F, qn_T, qn_F, and_F, b01_T, b01_F, e_isIn, Int32.toInt_toInt64, am_i_toInt, am_l_toInt, Int.toNat_natCast, Int.reduceToNat, Int.reduceAdd, Int.reduceSub, Int.reduceMul, Int.reduceNeg, Nat.reduceAdd, Nat.reduceMul, Nat.add_zero, Nat.mul_zero, Nat.zero_add, am_zb0, am_zb1, ↓Bool.cond_decide, cond_true, cond_false, ↓am_let_s, ↓bI_p, bIJ_s, ↓bV_p, bVJ_s, ↓bL_p, bLJ_s, ly_cf, Bool.and_self, Bool.and_true, m3, z5', z0, z2', q49, xl, b01_f ql, n_0sub, ap]
                exact f
          · have f := fin E t I5 J hL (nw_s hi hie (by omega) hN (fun _ => ⟨qg, fun _ k => absurd k qn⟩)) h1 (by omega) hM5 (fun _ _ => rfl)
            unfold nrS at qn
            by_cases qd : tg ≤ (bwF last wf fm wd (eS x0 (E i) j) v).mi
            · simp (disch := first | assumption | omega) only [am_i_add, am_i_sub, am_i_mul, am_ok_i, am_i_cl, n_lt, n_le, n_eq, n_lt0, n_le0, n_0lt, n_0le, n_eq0, ne_eq, ↓reduceIte, not_true_eq_false, not_false_eq_true, and_true, true_and, and_false, false_and, eq_T, eq_F, lt_T, lt_F, le_T, le_F, qn_T, qn_F, and_F, b01_T, b01_F, e_isIn, Int32.toInt_toInt64, am_i_toInt, am_l_toInt, Int.toNat_natCast, Int.reduceToNat, Int.reduceAdd, Int.reduceSub, Int.reduceMul, Int.reduceNeg, Nat.reduceAdd, Nat.reduceMul, Nat.add_zero, Nat.mul_zero, Nat.zero_add, am_zb0, am_zb1, ↓Bool.cond_decide, cond_true, cond_false, ↓am_let_s, ↓bI_p, bIJ_s, ↓bV_p, bVJ_s, ↓bL_p, bLJ_s, ly_cf, Bool.and_self, Bool.and_true, m3, z5', z0, z2', q49, xl, b01_f ql]
              exact f
            · simp (disch := first | assumption | omega) only [am_i_add, am_i_sub, am_i_mul, am_ok_i, am_i_cl, n_lt, n_le, n_eq, n_lt0, n_le0, n_0lt, n_0le, n_eq0, ne_eq, ↓reduceIte, not_true_eq_false, not_false_eq_true, and_true, true_and, and_false, false_and, eq_T, eq_F, lt_T, lt_F, le_T, le_F, qn_T, qn_F, and_F, b01_T, b01_F, e_isIn, Int32.toInt_toInt64, am_i_toInt, am_l_toInt, Int.toNat_natCast, Int.reduceToNat, Int.reduceAdd, Int.reduceSub, Int.reduceMul, Int.reduceNeg, Nat.reduceAdd, Nat.reduceMul, Nat.add_zero, Nat.mul_zero, Nat.zero_add, am_zb0, am_zb1, ↓Bool.cond_decide, cond_true, cond_false, ↓am_let_s, ↓bI_p, bIJ_s, ↓bV_p, bVJ_s, ↓bL_p, bLJ_s, ly_cf, Bool.and_self, Bool.and_true, m3, z5', z0, z2', q49, xl, b01_f ql, n_0sub]
              exact f
    · have f := fin E t I5 J hL (nw_s hi hie (by omega) hN (fun k => absurd k qs)) h1 (by omega) hM5 (fun _ _ => rfl)
      simp (disch := first | assumption | omega) only [am_i_add, am_i_sub, am_i_mul, am_ok_i, am_i_cl, n_lt, n_le, n_eq, n_lt0, n_le0, n_0lt, n_0le, n_eq0, ne_eq, ↓reduceIte, not_true_eq_false, not_false_eq_true, and_true, true_and, and_false, false_and, eq_T, eq_F, lt_T, lt_F, le_T, le_F, qn_T, qn_F, and_F, b01_T, b01_F, e_isIn, Int32.toInt_toInt64, am_i_toInt, am_l_toInt, Int.toNat_natCast, Int.reduceToNat, Int.reduceAdd, Int.reduceSub, Int.reduceMul, Int.reduceNeg, Nat.reduceAdd, Nat.reduceMul, Nat.add_zero, Nat.mul_zero, Nat.zero_add, am_zb0, am_zb1, ↓Bool.cond_decide, cond_true, cond_false, ↓am_let_s, ↓bI_p, bIJ_s, ↓bV_p, bVJ_s, ↓bL_p, bLJ_s, ly_cf, Bool.and_self, Bool.and_true, z5']
      exact f
end FOL
