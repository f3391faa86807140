section PRID
variable {d : Nat} {J : tJ} {R : tR} {c last nb nr : Nat} {nt ky : Nat → Nat} {s : Nat → bt} {L : Nat} {xs : Nat → Int32}
theorem x_r24 {I0 : tI} {z : Int} (hx : st_Rx R) (h4 : R 3 4 = c) (hc : c = 10 ∨ c = 20) (h6 : nb ≤ 6) (hr6 : nr ≤ 6) (hl : last ≤ 60) (hz : z = -1 ∨ 0 ≤ z ∧ z < nr) (hI0 : I0 c 0 = am_i last) (hI1 : I0 c 1 = am_i nb) (hI2 : I0 c 2 = am_i nr) (hky : ∀ r, r < nr → ky r < 8 ∧ I0 (c + 3) r = am_i (ky r)) (hnt : ∀ b, b < nb → nt b ≤ 6 ∧ I0 (c + 4) b = am_i (nt b)) (hB : ∀ b, b < nb → bOK last (nt b) (s b) ∧ bX (I0 31) (11 * b) (nt b) (s b)) : ∀ (m i : Nat) (I : tI), i + m = nr → (∀ q k, q ≠ 53 → I q k = I0 q k) → (∀ r, r < i → I 53 r = am_i (fiS (fun b => crS last (nt b) (s b) (ky r)) nb 0 0)) → ∃ (I' : tI) (M : Nat) (g : Nat → Nat), am_E (d + 9) 119 24 [(0, .ref 3), (1, .int (am_i z)), (2, .int (am_i i))] [] (I, J, R, 138) = some (some (.int (am_i (if z = -1 then (M : Int) else (g z.toNat : Int) - 1))), (I', J, R, 138)) ∧ bsF (ftS last nb nt s ky) nb nr M g ∧ ∀ q k, ¬ (52 ≤ q ∧ q ≤ 56) → I' q k = I0 q k
  | 0, i, I, hi, hI, h53 => by
    have : i = nr := by omega
    subst this
    have e2 : I c 2 = am_i i := by rw [hI _ _ (by omega)]; exact hI2
    obtain ⟨I1, M, g, p1, p2, p3, p4⟩ := x_ferry (d := d) (J := J) (R := R) (I := I) (fit := ftS last nb nt s ky) (nb := nb) (n := i) (F := fun r => fiS (fun b => crS last (nt b) (s b) (ky r)) nb 0 0) hx hr6 h6 (fun r hr => ⟨fiS_64 nb 0 0 (by omega) (by omega), h53 r hr⟩) (fun r hr b hb => by
      show fiS (fun b => crS last (nt b) (s b) (ky r)) nb 0 0 / 2 ^ b % 2 = _
      rw [fiS_t nb 0 0 (by decide), Nat.zero_div, Nat.zero_add]
      unfold ftS
      by_cases q : b < nb ∧ crS last (nt b) (s b) (ky r) = true
      · rw [if_pos ⟨by omega, q.1, q.2⟩, if_pos (by simp [q.1, q.2])]
      · rw [if_neg (fun e => q ⟨e.2.1, e.2.2⟩), if_neg (fun e => q (by simpa using e))]) (fun r b e => by
      unfold ftS at e
      simp at e
      exact e.1)
    refine ⟨I1, M, g, ?_, p2, fun q k e => by rw [p4 q k e, hI q k (by omega)]⟩
    rw [sg_X11_rides_24]
    by_cases q : z = -1
    · simp (disch := first | assumption | omega) only [rX hx, ly_csx, ly_cax, ly_cf, ly_kd, ly_ln, ↓Bool.cond_decide, cond_true, cond_false, ↓bI_p, ↓bV_p, ↓bL_p, bIJ_s, bVJ_s, bLJ_s, ↓am_let_s, Nat.blt, Nat.ble, Bool.and_true, Bool.true_and, Bool.and_self, Int.cast_ofNat_Int, am_i_add, am_i_sub, am_i_mul, am_ok_i, am_i_cl, n_lt, n_le, n_eq, n_lt0, n_le0, n_0lt, n_0le, n_eq0, ne_eq, ↓reduceIte, not_true_eq_false, not_false_eq_true, and_true, true_and, and_false, false_and, eq_T, eq_F, lt_T, lt_F, le_T, le_F, qn_T, qn_F, and_F, b01_T, b01_F, e_isIn, Int32.toInt_toInt64, am_i_toInt, am_l_toInt, Int.toNat_natCast, Int.reduceToNat, Int.reduceAdd, Int.reduceSub, Int.reduceMul, Int.reduceNeg, Nat.reduceAdd, Nat.reduceMul, Nat.add_zero, Nat.mul_zero, Nat.zero_add, am_zb0, am_zb1, h4, rC hx hc, e2, p1, q]
    · have e7 := p3 z.toNat (by omega)
      simp (disch := first | assumption | omega) only [rX hx, ly_csx, ly_cax, ly_cf, ly_kd, ly_ln, ↓Bool.cond_decide, cond_true, cond_false, ↓bI_p, ↓bV_p, ↓bL_p, bIJ_s, bVJ_s, bLJ_s, ↓am_let_s, Nat.blt, Nat.ble, Bool.and_true, Bool.true_and, Bool.and_self, Int.cast_ofNat_Int, am_i_add, am_i_sub, am_i_mul, am_ok_i, am_i_cl, n_lt, n_le, n_eq, n_lt0, n_le0, n_0lt, n_0le, n_eq0, ne_eq, ↓reduceIte, not_true_eq_false, not_false_eq_true, and_true, true_and, and_false, false_and, eq_T, eq_F, lt_T, lt_F, le_T, le_F, qn_T, qn_F, and_F, b01_T, b01_F, e_isIn, Int32.toInt_toInt64, am_i_toInt, am_l_toInt, Int.toNat_natCast, Int.reduceToNat, Int.reduceAdd, Int.reduceSub, Int.reduceMul, Int.reduceNeg, Nat.reduceAdd, Nat.reduceMul, Nat.add_zero, Nat.mul_zero, Nat.zero_add, am_zb0, am_zb1, h4, rC hx hc, e2, p1, if_neg q, e7]
  | m + 1, i, I, hi, hI, h53 => by
    have e2 : I c 2 = am_i nr := by rw [hI _ _ (by omega)]; exact hI2
    obtain ⟨k8, k3⟩ := hky i (by omega)
    have e3 : I (c + 3) i = am_i (ky i) := by rw [hI _ _ (by omega)]; exact k3
    have bf : ∀ d, am_E (d + 3) 153 4 [(0, .ref 3), (1, .int (am_i (ky i))), (2, .int (am_i 0)), (3, .int (am_i 0))] [] (I, J, R, 138) = _ := fun d => x_bf4 (d := d) (I := I) (J := J) (R := R) (nt := nt) (s := s) (key := ky i) hx h4 hc h6 hl k8 (by rw [hI _ _ (by omega)]; exact hI0) (by rw [hI _ _ (by omega)]; exact hI1) (fun b hb => ⟨(hnt b hb).1, by rw [hI _ _ (by omega)]; exact (hnt b hb).2⟩) (fun b hb => ⟨(hB b hb).1, by
      obtain ⟨y0, y1, y2, y3, y4, y5⟩ := (hB b hb).2
      exact ⟨by rw [hI _ _ (by omega)]; exact y0, by rw [hI _ _ (by omega)]; exact y1, by rw [hI _ _ (by omega)]; exact y2, by rw [hI _ _ (by omega)]; exact y3, by rw [hI _ _ (by omega)]; exact y4, fun k hk => by rw [hI _ _ (by omega)]; exact y5 k hk⟩⟩) nb 0 0 (by omega) (by omega)
    obtain ⟨I', M, g, p1, p2⟩ := x_r24 (I0 := I0) hx h4 hc h6 hr6 hl hz hI0 hI1 hI2 hky hnt hB m (i + 1) (am_up I 53 i (am_i (fiS (fun b => crS last (nt b) (s b) (ky i)) nb 0 0))) (by omega) (fun q k e => by rw [am_up_o (by omega)]; exact hI q k e) (fun r hr => by
      by_cases c : r = i
      · rw [c, am_up_e]
      · rw [am_up_o (by omega)]; exact h53 r (by omega))
    refine ⟨I', M, g, ?_, p2⟩
    rw [← p1, sg_X11_rides_24]
    simp (disch := first | assumption | omega) only [rX hx, ly_csx, ly_cax, ly_cf, ly_kd, ly_ln, ↓Bool.cond_decide, cond_true, cond_false, ↓bI_p, ↓bV_p, ↓bL_p, bIJ_s, bVJ_s, bLJ_s, ↓am_let_s, Nat.blt, Nat.ble, Bool.and_true, Bool.true_and, Bool.and_self, Int.cast_ofNat_Int, am_i_add, am_i_sub, am_i_mul, am_ok_i, am_i_cl, n_lt, n_le, n_eq, n_lt0, n_le0, n_0lt, n_0le, n_eq0, ne_eq, ↓reduceIte, not_true_eq_false, not_false_eq_true, and_true, true_and, and_false, false_and, eq_T, eq_F, lt_T, lt_F, le_T, le_F, qn_T, qn_F, and_F, b01_T, b01_F, e_isIn, Int32.toInt_toInt64, am_i_toInt, am_l_toInt, Int.toNat_natCast, Int.reduceToNat, Int.reduceAdd, Int.reduceSub, Int.reduceMul, Int.reduceNeg, Nat.reduceAdd, Nat.reduceMul, Nat.add_zero, Nat.mul_zero, Nat.zero_add, am_zb0, am_zb1, h4, rC hx hc, e2, e3, sg_X11_boatsFor_0, bf, am_i_s]
theorem p_rides (d : Nat) (a1 : Int32) : pr_I (vV restW L xs) (d + 9) 119 239 [(1, .int a1)] := by
  refine pW_I ?_
  intro I J R hV
  have hV0 := hV
  obtain ⟨⟨h1, h2, hx, hm, hmu⟩, ht, hr, hf, hp, hs, hd, hw⟩ := hV
  obtain ⟨c, last, nb, nr, nw, wd, sq, K, nt, wf, fm, h4, hc, hB, hN, hF, ⟨h, s, ⟨hh, e66, g0, hbt⟩, ⟨ek, gk, hkp⟩, hKh⟩, hA, hX⟩ := hw
  obtain ⟨b1, b2, b3, b4, b5, b6, b7, b8, i0, m0, i1, m1, i2, m2, i3, m3, i4, m4, i5, m5, mS, mT, hnt, hky, hwf⟩ := hB
  obtain ⟨z, z1, z2, rfl⟩ := i32_z a1
  have xH := fun d => e_hasSound (d := d) (J := J) hx h4 hc b2 i0
  have xR := fun d => e_xisRider d (am_i z) nr c I J R hx h4 hc b4 i2
  have tz : (am_i z).toInt = z := am_i_toInt z1 z2
  by_cases hq : last ≠ 0 ∧ (z = -1 ∨ 0 ≤ z ∧ z < nr)
  · obtain ⟨hl0, hz⟩ := hq
    have hky' : ∀ r, ∃ k : Nat, r < nr → k < 8 ∧ I (c + 3) r = am_i k ∧ I 98 (6 + r) = am_i k := fun r => by
      by_cases q : r < nr
      · obtain ⟨k, x⟩ := hky r q
        exact ⟨k, fun _ => x⟩
      · exact ⟨0, fun e => absurd e q⟩
    obtain ⟨ky, hk⟩ := Classical.axiomOfChoice hky'
    obtain ⟨I1, M, g, p1, p2, p3⟩ := x_r24 (d := d) (J := J) (R := R) (I0 := I) (nt := nt) (ky := ky) (s := s) (z := z) hx h4 hc b3 b4 b2 hz i0 i1 i2 (fun r hr => ⟨(hk r hr).1, (hk r hr).2.1⟩) (fun b hb => ⟨(hnt b hb).1, (hnt b hb).2.1⟩) (fun b hb => ⟨(hbt b hb).1, (hbt b hb).2.1⟩) nr 0 I (by omega) (fun _ _ _ => rfl) (fun r hr => absurd hr (by omega))
    have p1' : am_E (d + 9) 119 24 [(0, .ref 3), (1, .int (am_i z)), (2, .int (am_i 0))] [] (I, J, R, 138) = _ := p1
    refine ⟨am_i (if z = -1 then (M : Int) else (g z.toNat : Int) - 1), ?_⟩
    have cl : am_E (d + 9) 119 0 [(0, .ref 3), (1, .int (am_i z))] [] (I, J, R, 138) = some (some (.int (am_i (if z = -1 then (M : Int) else (g z.toNat : Int) - 1))), (I1, J, R, 138)) := by
      rw [← p1', sg_X11_rides_0]
      by_cases q : z = -1
      · simp (disch := first | assumption | omega) only [rX hx, ly_csx, ly_cax, ly_cf, ly_kd, ly_ln, ↓Bool.cond_decide, cond_true, cond_false, ↓bI_p, ↓bV_p, ↓bL_p, bIJ_s, bVJ_s, bLJ_s, ↓am_let_s, Nat.blt, Nat.ble, Bool.and_true, Bool.true_and, Bool.and_self, Int.cast_ofNat_Int, am_i_add, am_i_sub, am_i_mul, am_ok_i, am_i_cl, n_lt, n_le, n_eq, n_lt0, n_le0, n_0lt, n_0le, n_eq0, ne_eq, ↓reduceIte, not_true_eq_false, not_false_eq_true, and_true, true_and, and_false, false_and, eq_T, eq_F, lt_T, lt_F, le_T, le_F, qn_T, qn_F, and_F, b01_T, b01_F, e_isIn, Int32.toInt_toInt64, am_i_toInt, am_l_toInt, Int.toNat_natCast, Int.reduceToNat, Int.reduceAdd, Int.reduceSub, Int.reduceMul, Int.reduceNeg, Nat.reduceAdd, Nat.reduceMul, Nat.add_zero, Nat.mul_zero, Nat.zero_add, am_zb0, am_zb1, xH, if_neg hl0, q, sg_X11_rides_22]
      · have xR' : ∀ d, am_E (d + 1) 138 0 [(0, .ref 3), (1, .int (am_i z))] [] (I, J, R, 138) = some (some (.int (am_i 1)), (I, J, R, 138)) := fun d => by rw [xR d, b01_t (by rw [tz]; omega)]
        simp (disch := first | assumption | omega) only [rX hx, ly_csx, ly_cax, ly_cf, ly_kd, ly_ln, ↓Bool.cond_decide, cond_true, cond_false, ↓bI_p, ↓bV_p, ↓bL_p, bIJ_s, bVJ_s, bLJ_s, ↓am_let_s, Nat.blt, Nat.ble, Bool.and_true, Bool.true_and, Bool.and_self, Int.cast_ofNat_Int, am_i_add, am_i_sub, am_i_mul, am_ok_i, am_i_cl, n_lt, n_le, n_eq, n_lt0, n_le0, n_0lt, n_0le, n_eq0, ne_eq, ↓reduceIte, not_true_eq_false, not_false_eq_true, and_true, true_and, and_false, false_and, eq_T, eq_F, lt_T, lt_F, le_T, le_F, qn_T, qn_F, and_F, b01_T, b01_F, e_isIn, Int32.toInt_toInt64, am_i_toInt, am_l_toInt, Int.toNat_natCast, Int.reduceToNat, Int.reduceAdd, Int.reduceSub, Int.reduceMul, Int.reduceNeg, Nat.reduceAdd, Nat.reduceMul, Nat.add_zero, Nat.mul_zero, Nat.zero_add, am_zb0, am_zb1, xH, if_neg hl0, xR', sg_X11_rides_22]
    have g1 : ∀ q k, ¬ sC q k → I1 q k = I q k := fun q k e => p3 q k (by unfold sC at e; omega)
    refine Wp_e cl (Wp_r ⟨I1, J, R, rfl, rfl, funext (fun k => p3 1 k (by omega)), rfl, ?_⟩)
    obtain ⟨I2, v1, v2, v3, v4⟩ := m_r32 (d := d + 8) (J := J) (R := R) (z := z) hm 6 0 I1 (by omega)
    have v1' : am_E (d + 9) 239 32 [(0, .ref 64), (1, .int (am_i z)), (2, .int (am_i 0))] [] (I1, J, R, 138) = _ := v1
    have hI2 : ridM last nb nr nt ky s I2 := by
      have e : ∀ q k, q ≠ 107 → ¬ (52 ≤ q ∧ q ≤ 56) → I2 q k = I q k := fun q k e1 e2 => by rw [v2 q k e1, p3 q k e2]
      refine ⟨b2, b3, b4, by rw [e _ _ (by omega) (by omega)]; exact m0, by rw [e _ _ (by omega) (by omega)]; exact m1, by rw [e _ _ (by omega) (by omega)]; exact m2, fun r hr => ⟨(hk r hr).1, by rw [e _ _ (by omega) (by omega)]; exact (hk r hr).2.2⟩, fun b hb => ⟨(hnt b hb).1, by rw [e _ _ (by omega) (by omega)]; exact (hnt b hb).2.2, (hbt b hb).1, ?_⟩⟩
      obtain ⟨y0, y1, y2, y3, y4, y5⟩ := (hbt b hb).2.2
      exact ⟨by rw [e _ _ (by omega) (by omega)]; exact y0, by rw [e _ _ (by omega) (by omega)]; exact y1, by rw [e _ _ (by omega) (by omega)]; exact y2, by rw [e _ _ (by omega) (by omega)]; exact y3, by rw [e _ _ (by omega) (by omega)]; exact y4, fun k hk => by rw [e _ _ (by omega) (by omega)]; exact y5 k hk⟩
    have c0 : cdF (nb + 1) (fun _ => 0) nr = 0 := cdF_z nr (fun _ _ => rfl)
    obtain ⟨I3, M', g', w1, w2, w3⟩ := m_r55 (d := d + 3) (J := J) (R := R) (I0 := I2) (z := z) hm hI2 hz (cdF (nb + 1) (fun _ => nb) nr) 0 (fun _ => 0) (fun _ => 0) I2 (by rw [c0, Nat.zero_add]) (fun _ _ _ => rfl) (fun k hk => ⟨Nat.zero_le _, v3 k (by omega) (by omega)⟩) (fun _ _ => Nat.zero_le _) (vF_z nr 0 _ (fun _ _ _ => rfl)) (Nat.le_refl _) (fun h hh hc => by
      have e : ∀ k, k < nr → h k = 0 := cdF_inj (B := nb + 1) nr (fun k hk => by have := hh k hk; omega) (fun k _ => Nat.zero_lt_succ _) (g := fun _ => 0) (by omega)
      rw [vF_z nr 0 _ (fun k _ hk => e k (by omega))]
      exact ⟨Int.le_refl _, fun _ => by rw [c0]; exact Nat.zero_le _⟩)
    have ez : (if z = -1 then (-1 : Int) else (((fun _ => 0 : Nat → Nat) z.toNat : Nat) : Int) - 1) = -1 := by split <;> rfl
    rw [ez] at w1
    have w1' : am_E (d + 9) 239 55 [(0, .ref 64), (1, .int (am_i z)), (2, .int (am_i 0)), (3, .int (am_i (-1)))] [] (I2, J, R, 138) = _ := w1
    obtain ⟨u1, u2⟩ := bsF_u p2 w2
    have ea : (if z = -1 then (M' : Int) else (g' z.toNat : Int) - 1) = (if z = -1 then (M : Int) else (g z.toNat : Int) - 1) := by
      rw [u1]
      by_cases q : z = -1
      · rw [if_pos q, if_pos q]
      · rw [if_neg q, if_neg q, u2 z.toNat (by omega)]
    rw [ea] at w1'
    have e50 : I1 64 50 = am_i 1 := by rw [p3 _ _ (by omega), mS, if_neg hl0]
    have cm : am_E (d + 9) 239 0 [(0, .ref 64), (1, .int (am_i z))] [] (I1, J, R, 138) = some (some (.int (am_i (if z = -1 then (M : Int) else (g z.toNat : Int) - 1))), (I3, J, R, 138)) := by
      have eR := fun d => e_riders (d := d) (J := J) (R := R) (I := I1) (n := nr) hm (by rw [p3 _ _ (by omega)]; exact m2)
      rw [← w1', ← v1', sg_X12_rides_0]
      by_cases q : z = -1
      · simp (disch := first | assumption | omega) only [rM hm, ly_csm, ly_cam, ly_cf, ly_kd, ly_ln, ↓Bool.cond_decide, cond_true, cond_false, ↓bI_p, ↓bV_p, ↓bL_p, bIJ_s, bVJ_s, bLJ_s, ↓am_let_s, Nat.blt, Nat.ble, Bool.and_true, Bool.true_and, Bool.and_self, Int.cast_ofNat_Int, am_i_add, am_i_sub, am_i_mul, am_ok_i, am_i_cl, n_lt, n_le, n_eq, n_lt0, n_le0, n_0lt, n_0le, n_eq0, ne_eq, ↓reduceIte, not_true_eq_false, not_false_eq_true, and_true, true_and, and_false, false_and, eq_T, eq_F, lt_T, lt_F, le_T, le_F, qn_T, qn_F, and_F, b01_T, b01_F, e_isIn, Int32.toInt_toInt64, am_i_toInt, am_l_toInt, Int.toNat_natCast, Int.reduceToNat, Int.reduceAdd, Int.reduceSub, Int.reduceMul, Int.reduceNeg, Nat.reduceAdd, Nat.reduceMul, Nat.add_zero, Nat.mul_zero, Nat.zero_add, am_zb0, am_zb1, e50, q, sg_X12_rides_30]
      · simp (disch := first | assumption | omega) only [rM hm, ly_csm, ly_cam, ly_cf, ly_kd, ly_ln, ↓Bool.cond_decide, cond_true, cond_false, ↓bI_p, ↓bV_p, ↓bL_p, bIJ_s, bVJ_s, bLJ_s, ↓am_let_s, Nat.blt, Nat.ble, Bool.and_true, Bool.true_and, Bool.and_self, Int.cast_ofNat_Int, am_i_add, am_i_sub, am_i_mul, am_ok_i, am_i_cl, n_lt, n_le, n_eq, n_lt0, n_le0, n_0lt, n_0le, n_eq0, ne_eq, ↓reduceIte, not_true_eq_false, not_false_eq_true, and_true, true_and, and_false, false_and, eq_T, eq_F, lt_T, lt_F, le_T, le_F, qn_T, qn_F, and_F, b01_T, b01_F, e_isIn, Int32.toInt_toInt64, am_i_toInt, am_l_toInt, Int.toNat_natCast, Int.reduceToNat, Int.reduceAdd, Int.reduceSub, Int.reduceMul, Int.reduceNeg, Nat.reduceAdd, Nat.reduceMul, Nat.add_zero, Nat.mul_zero, Nat.zero_add, am_zb0, am_zb1, e50, eR, sg_X12_rides_30]
    exact Wp_e cm (Wp_r ⟨I3, J, R, rfl, rfl, vV_s hV0 (fun q k e => by
      have e' := e
      unfold sC at e'
      rw [w3 q k (by omega), v2 q k (by omega), g1 q k e]) (fun _ _ _ _ => rfl) (rR_r hmu)⟩)
  · refine ⟨am_i (-1), ?_⟩
    have cl : am_E (d + 9) 119 0 [(0, .ref 3), (1, .int (am_i z))] [] (I, J, R, 138) = some (some (.int (am_i (-1))), (I, J, R, 138)) := by
      rw [sg_X11_rides_0]
      by_cases q0 : last = 0
      · simp (disch := first | assumption | omega) only [rX hx, ly_csx, ly_cax, ly_cf, ly_kd, ly_ln, ↓Bool.cond_decide, cond_true, cond_false, ↓bI_p, ↓bV_p, ↓bL_p, bIJ_s, bVJ_s, bLJ_s, ↓am_let_s, Nat.blt, Nat.ble, Bool.and_true, Bool.true_and, Bool.and_self, Int.cast_ofNat_Int, am_i_add, am_i_sub, am_i_mul, am_ok_i, am_i_cl, n_lt, n_le, n_eq, n_lt0, n_le0, n_0lt, n_0le, n_eq0, ne_eq, ↓reduceIte, not_true_eq_false, not_false_eq_true, and_true, true_and, and_false, false_and, eq_T, eq_F, lt_T, lt_F, le_T, le_F, qn_T, qn_F, and_F, b01_T, b01_F, e_isIn, Int32.toInt_toInt64, am_i_toInt, am_l_toInt, Int.toNat_natCast, Int.reduceToNat, Int.reduceAdd, Int.reduceSub, Int.reduceMul, Int.reduceNeg, Nat.reduceAdd, Nat.reduceMul, Nat.add_zero, Nat.mul_zero, Nat.zero_add, am_zb0, am_zb1, xH, if_pos q0, sg_X11_rides_20]
      · have xR' : ∀ d, am_E (d + 1) 138 0 [(0, .ref 3), (1, .int (am_i z))] [] (I, J, R, 138) = some (some (.int (am_i 0)), (I, J, R, 138)) := fun d => by rw [xR d, b01_f (by rw [tz]; exact fun e => hq ⟨q0, Or.inr e⟩)]
        have qz : ¬ z = -1 := fun e => hq ⟨q0, Or.inl e⟩
        simp (disch := first | assumption | omega) only [rX hx, ly_csx, ly_cax, ly_cf, ly_kd, ly_ln, ↓Bool.cond_decide, cond_true, cond_false, ↓bI_p, ↓bV_p, ↓bL_p, bIJ_s, bVJ_s, bLJ_s, ↓am_let_s, Nat.blt, Nat.ble, Bool.and_true, Bool.true_and, Bool.and_self, Int.cast_ofNat_Int, am_i_add, am_i_sub, am_i_mul, am_ok_i, am_i_cl, n_lt, n_le, n_eq, n_lt0, n_le0, n_0lt, n_0le, n_eq0, ne_eq, ↓reduceIte, not_true_eq_false, not_false_eq_true, and_true, true_and, and_false, false_and, eq_T, eq_F, lt_T, lt_F, le_T, le_F, qn_T, qn_F, and_F, b01_T, b01_F, e_isIn, Int32.toInt_toInt64, am_i_toInt, am_l_toInt, Int.toNat_natCast, Int.reduceToNat, Int.reduceAdd, Int.reduceSub, Int.reduceMul, Int.reduceNeg, Nat.reduceAdd, Nat.reduceMul, Nat.add_zero, Nat.mul_zero, Nat.zero_add, am_zb0, am_zb1, xH, if_neg q0, xR', sg_X11_rides_20]
    refine Wp_e cl (Wp_r ⟨I, J, R, rfl, rfl, rfl, rfl, ?_⟩)
    have eR := fun d => e_riders (d := d) (J := J) (R := R) (I := I) (n := nr) hm m2
    have cm : am_E (d + 9) 239 0 [(0, .ref 64), (1, .int (am_i z))] [] (I, J, R, 138) = some (some (.int (am_i (-1))), (I, J, R, 138)) := by
      rw [sg_X12_rides_0]
      by_cases q0 : last = 0
      · rw [if_pos q0] at mS
        simp (disch := first | assumption | omega) only [rM hm, ly_csm, ly_cam, ly_cf, ly_kd, ly_ln, ↓Bool.cond_decide, cond_true, cond_false, ↓bI_p, ↓bV_p, ↓bL_p, bIJ_s, bVJ_s, bLJ_s, ↓am_let_s, Nat.blt, Nat.ble, Bool.and_true, Bool.true_and, Bool.and_self, Int.cast_ofNat_Int, am_i_add, am_i_sub, am_i_mul, am_ok_i, am_i_cl, n_lt, n_le, n_eq, n_lt0, n_le0, n_0lt, n_0le, n_eq0, ne_eq, ↓reduceIte, not_true_eq_false, not_false_eq_true, and_true, true_and, and_false, false_and, eq_T, eq_F, lt_T, lt_F, le_T, le_F, qn_T, qn_F, and_F, b01_T, b01_F, e_isIn, Int32.toInt_toInt64, am_i_toInt, am_l_toInt, Int.toNat_natCast, Int.reduceToNat, Int.reduceAdd, Int.reduceSub, Int.reduceMul, Int.reduceNeg, Nat.reduceAdd, Nat.reduceMul, Nat.add_zero, Nat.mul_zero, Nat.zero_add, am_zb0, am_zb1, mS, sg_X12_rides_28]
      · rw [if_neg q0] at mS
        have qz : ¬ z = -1 := fun e => hq ⟨q0, Or.inl e⟩
        have qr : ¬ (0 ≤ z ∧ z ≤ (nr : Int) - 1) := fun e => hq ⟨q0, Or.inr ⟨e.1, by omega⟩⟩
        simp (disch := first | assumption | omega) only [rM hm, ly_csm, ly_cam, ly_cf, ly_kd, ly_ln, ↓Bool.cond_decide, cond_true, cond_false, ↓bI_p, ↓bV_p, ↓bL_p, bIJ_s, bVJ_s, bLJ_s, ↓am_let_s, Nat.blt, Nat.ble, Bool.and_true, Bool.true_and, Bool.and_self, Int.cast_ofNat_Int, am_i_add, am_i_sub, am_i_mul, am_ok_i, am_i_cl, n_lt, n_le, n_eq, n_lt0, n_le0, n_0lt, n_0le, n_eq0, ne_eq, ↓reduceIte, not_true_eq_false, not_false_eq_true, and_true, true_and, and_false, false_and, eq_T, eq_F, lt_T, lt_F, le_T, le_F, qn_T, qn_F, and_F, b01_T, b01_F, e_isIn, Int32.toInt_toInt64, am_i_toInt, am_l_toInt, Int.toNat_natCast, Int.reduceToNat, Int.reduceAdd, Int.reduceSub, Int.reduceMul, Int.reduceNeg, Nat.reduceAdd, Nat.reduceMul, Nat.add_zero, Nat.mul_zero, Nat.zero_add, am_zb0, am_zb1, mS, eR, sg_X12_rides_28]
    exact Wp_e cm (Wp_r ⟨I, J, R, rfl, rfl, hV0⟩)
end PRID
