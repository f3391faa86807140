section PCAT
variable {L : Nat} {xs : Nat → Int32}
theorem p_cat (d : Nat) (a1 : Int32) : pr_I (vV restW L xs) (d + 8) 114 229 [(1, .int a1)] := by
  refine pW_I ?_
  intro I J R hV
  have hV0 := hV
  obtain ⟨⟨h1, h2, hx, hm, hmu⟩, ht, hr, hf, hp, hs, hd, hw⟩ := hV
  obtain ⟨c, last, nb, nr, nw, wd, sq, K, nt, wf, fm, h4, hc, hB, hN, hF, ⟨h, s, ⟨hh, e66, g0, hbt⟩, ⟨ek, gk, hkp⟩, hKh⟩, hA, hX⟩ := hw
  obtain ⟨b1, b2, b3, b4, b5, b6, b7, b8, i0, m0, i1, m1, i2, m2, i3, m3, i4, m4, i5, m5, mS, mT, hnt, hky, hwf⟩ := hB
  obtain ⟨w, w1, w2, rfl⟩ := i32_z a1
  have hXx : last ≠ 0 → cxX c last wd wf fm I := fun hl0 => ⟨i0, b2, i4, b6, fun m hm => ⟨(hwf m hm).1, (hwf m hm).2.1⟩, fun f hf => ⟨(hF hl0 f hf).1, (hF hl0 f hf).2.2⟩⟩
  refine ⟨am_i (caA w (caX last wf fm nt wd 0 s nb 0 (min 60 (999 - h)) (-1))), ?_⟩
  have xA : ∀ d, am_E (d + 1) 150 0 [(0, .ref 3), (1, .int (am_i 60))] [] (I, J, R, 138) = some (some (.int (am_i (min 60 (999 - h) : Nat))), (I, J, R, 138)) := fun d => x_ahead (m := 60) hx (by omega) hh e66
  rw [sg_X11_cat_0]
  simp (disch := first | assumption | omega) only [rX hx, ly_csx, ly_cax, ly_cf, ly_kd, ly_ln, ↓Bool.cond_decide, cond_true, cond_false, ↓bI_p, ↓bV_p, ↓bL_p, bIJ_s, bVJ_s, bLJ_s, ↓am_let_s, Nat.blt, Nat.ble, Bool.and_true, Bool.true_and, Bool.and_self, Int.cast_ofNat_Int, xA]
  refine Wp_m (x_cat (d := d) (R0 := R) (J := J) hx h4 hc b3 w1 w2 (fun hb => hXx (fun e => by have := (b8 e).1; omega)) i1 (fun b hb => ⟨(hnt b hb).1, (hnt b hb).2.1⟩) (fun b hb => ⟨(hbt b hb).1, (hbt b hb).2.1⟩) nb 0 (min 60 (999 - h)) (-1) I R (by omega) (by omega) (Or.inl rfl) (rR_r hmu) (fun _ _ _ => rfl)) ?_
  rintro _ _ ⟨I1, R1, rfl, rfl, r1, r2⟩
  refine ⟨I1, J, R1, rfl, rfl, funext (fun k => r2 1 k (by omega)), r1.1 _ _ (by omega), ?_⟩
  have hm1 := rR_m r1 hm
  have g : ∀ q k, ¬ sC q k → I1 q k = I q k := fun q k e => r2 q k (by unfold sC at e; omega)
  have e50 : I1 64 50 = am_i (if last = 0 then 0 else 1) := by rw [r2 _ _ (by omega)]; exact mS
  rw [sg_X12_cat_0]
  by_cases hl0 : last = 0
  · rw [if_pos hl0] at e50
    simp (disch := first | assumption | omega) only [↓Bool.cond_decide, cond_true, cond_false, ↓am_let_s, ↓bI_p, bIJ_s, ↓bV_p, bVJ_s, ↓bL_p, bLJ_s, ly_cf, Bool.and_self, Bool.and_true, am_i_add, am_i_sub, am_i_mul, am_ok_i, am_i_cl, n_lt, n_le, n_eq, n_lt0, n_le0, n_0lt, n_0le, n_eq0, ne_eq, ↓reduceIte, not_true_eq_false, not_false_eq_true, and_true, true_and, and_false, false_and, eq_T, eq_F, lt_T, lt_F, le_T, le_F, qn_T, qn_F, and_F, b01_T, b01_F, e_isIn, Int32.toInt_toInt64, am_i_toInt, am_l_toInt, Int.toNat_natCast, Int.reduceToNat, Int.reduceAdd, Int.reduceSub, Int.reduceMul, Int.reduceNeg, Nat.reduceAdd, Nat.reduceMul, Nat.add_zero, Nat.mul_zero, Nat.zero_add, am_zb0, am_zb1, e50, sg_X12_cat_17]
    have nb0 := (b8 hl0).1
    refine Wp_r ⟨I1, J, R1, ?_, rfl, vV_s hV0 g (fun _ _ _ _ => rfl) r1⟩
    rw [nb0]
    rfl
  · rw [if_neg hl0] at e50
    by_cases hw : 0 ≤ w ∧ w ≤ 1
    · have hXm : cxM last wd nb nt wf fm I1 := cxM_c (fun q k a1 a2 => r2 q k (by omega)) ⟨m0, b2, m4, b6, m1, b3, fun b hb => ⟨(hnt b hb).1, (hnt b hb).2.2⟩, fun m hm => (hwf m hm).2.2, fun f hf => ⟨(hF hl0 f hf).2.1, (hF hl0 f hf).2.2⟩⟩
      have hRM : rwM nb nt last h s I1 := rwM_c ⟨hh, g0, fun b hb => ⟨(hbt b hb).1, (hbt b hb).2.2⟩⟩ b3 (fun b hb => (hnt b hb).1) (fun k _ => r2 _ _ (by omega))
      simp (disch := first | assumption | omega) only [↓Bool.cond_decide, cond_true, cond_false, ↓am_let_s, ↓bI_p, bIJ_s, ↓bV_p, bVJ_s, ↓bL_p, bLJ_s, ly_cf, Bool.and_self, Bool.and_true, am_i_add, am_i_sub, am_i_mul, am_ok_i, am_i_cl, n_lt, n_le, n_eq, n_lt0, n_le0, n_0lt, n_0le, n_eq0, ne_eq, ↓reduceIte, not_true_eq_false, not_false_eq_true, and_true, true_and, and_false, false_and, eq_T, eq_F, lt_T, lt_F, le_T, le_F, qn_T, qn_F, and_F, b01_T, b01_F, e_isIn, Int32.toInt_toInt64, am_i_toInt, am_l_toInt, Int.toNat_natCast, Int.reduceToNat, Int.reduceAdd, Int.reduceSub, Int.reduceMul, Int.reduceNeg, Nat.reduceAdd, Nat.reduceMul, Nat.add_zero, Nat.mul_zero, Nat.zero_add, am_zb0, am_zb1, e50]
      refine Wp_V (m_aside hm1) ?_
      rintro _ _ ⟨I3, rfl, rfl, ht3, e3⟩
      refine ⟨rfl, ?_⟩
      have hr3 : rwM nb nt last h s I3 := rwM_c hRM b3 (fun b hb => (hnt b hb).1) (fun k hk => e3 k)
      refine Wp_m (m_cat (d := d) (I0 := I1) hm1 hXm (by rw [r2 _ _ (by omega)]; exact mT) hw.1 hw.2 (min 60 (999 - h)) 0 h s I3 J (by omega) (by omega) ht3 hr3) ?_
      rintro _ _ ⟨I4, J4, rfl, rfl, hj, e4⟩
      refine ⟨I4, J4, R1, ?_, rfl, vV_s hV0 (fun q k e => by rw [e4 q k e, g q k e]) (fun q k e1 e2 => hj q k e1) r1⟩
      rw [ca_eq]
      unfold caA
      by_cases q : (caX last wf fm nt wd 0 s nb 0 (min 60 (999 - h)) (-1)).2 = -1
      · rw [if_pos q, if_pos q]
        by_cases q0 : w = 0
        · rw [if_pos q0]
        · rw [if_neg q0]
      · rw [if_neg q, if_neg q, Nat.zero_add]
        by_cases q0 : w = 0
        · rw [if_pos q0, if_pos q0]
        · rw [if_neg q0, if_neg q0, if_pos (by omega)]
    · simp (disch := first | assumption | omega) only [↓Bool.cond_decide, cond_true, cond_false, ↓am_let_s, ↓bI_p, bIJ_s, ↓bV_p, bVJ_s, ↓bL_p, bLJ_s, ly_cf, Bool.and_self, Bool.and_true, am_i_add, am_i_sub, am_i_mul, am_ok_i, am_i_cl, n_lt, n_le, n_eq, n_lt0, n_le0, n_0lt, n_0le, n_eq0, ne_eq, ↓reduceIte, not_true_eq_false, not_false_eq_true, and_true, true_and, and_false, false_and, eq_T, eq_F, lt_T, lt_F, le_T, le_F, qn_T, qn_F, and_F, b01_T, b01_F, e_isIn, Int32.toInt_toInt64, am_i_toInt, am_l_toInt, Int.toNat_natCast, Int.reduceToNat, Int.reduceAdd, Int.reduceSub, Int.reduceMul, Int.reduceNeg, Nat.reduceAdd, Nat.reduceMul, Nat.add_zero, Nat.mul_zero, Nat.zero_add, am_zb0, am_zb1, e50, sg_X12_cat_17]
      refine Wp_r ⟨I1, J, R1, ?_, rfl, vV_s hV0 g (fun _ _ _ _ => rfl) r1⟩
      unfold caA
      rw [if_neg (fun e => hw ⟨by omega, by omega⟩ : ¬ w = 0), if_neg (fun e => hw ⟨by omega, by omega⟩ : ¬ w = 1)]
      split <;> rfl
end PCAT
