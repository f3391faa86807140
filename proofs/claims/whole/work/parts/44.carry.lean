/-! ===== a hull is loaded; pairs by what calls leave behind ===== -/
theorem pW_I {V : tI → tJ → tR → Prop} {d mx mm : Nat} {la : am_Ls} (h : ∀ I J R, V I J R → ∃ r, Wp (fun q M => ∃ I1 J1 R1, q = some (.int r) ∧ M = (I1, J1, R1, 138) ∧ I1 1 = I 1 ∧ R1 0 0 = R 0 0 ∧ Wp (fun q' M' => ∃ I2 J2 R2, q' = some (.int r) ∧ M' = (I2, J2, R2, 138) ∧ V I2 J2 R2) (am_E d mm 0 ((0, .ref 64) :: la) [] (I1, J1, R1, 138))) (am_E d mx 0 ((0, .ref 3) :: la) [] (I, J, R, 138))) : pr_I V d mx mm la := by
  intro I J R hV
  obtain ⟨r, _, _, e1, I1, J1, R1, rfl, rfl, h1, h2, _, _, e2, I2, J2, R2, rfl, rfl, hV2⟩ := h I J R hV
  exact ⟨r, I1, J1, R1, I2, J2, R2, e1, h1, h2, e2, hV2⟩
theorem pW_L {V : tI → tJ → tR → Prop} {d mx mm : Nat} {la : am_Ls} (h : ∀ I J R, V I J R → ∃ r, Wp (fun q M => ∃ I1 J1 R1, q = some (.long r) ∧ M = (I1, J1, R1, 138) ∧ I1 1 = I 1 ∧ R1 0 0 = R 0 0 ∧ Wp (fun q' M' => ∃ I2 J2 R2, q' = some (.long r) ∧ M' = (I2, J2, R2, 138) ∧ V I2 J2 R2) (am_E d mm 0 ((0, .ref 64) :: la) [] (I1, J1, R1, 138))) (am_E d mx 0 ((0, .ref 3) :: la) [] (I, J, R, 138))) : pr_L V d mx mm la := by
  intro I J R hV
  obtain ⟨r, _, _, e1, I1, J1, R1, rfl, rfl, h1, h2, _, _, e2, I2, J2, R2, rfl, rfl, hV2⟩ := h I J R hV
  exact ⟨r, I1, J1, R1, I2, J2, R2, e1, h1, h2, e2, hV2⟩
/-- what V doesn't look at -/
def sC (q k : Nat) : Prop := (35 ≤ q ∧ q ≤ 56) ∨ q = 59 ∨ q = 60 ∨ (q = 57 ∧ k ≠ 1) ∨ (104 ≤ q ∧ q ≤ 107) ∨ q = 109 ∨ (134 ≤ q ∧ q ≤ 136) ∨ q = 8 ∨ q = 9 ∨ q = 30 ∨ (q = 5 ∧ k ≠ 10 ∧ k ≠ 11) ∨ (q = 64 ∧ k ≠ 1 ∧ k ≠ 7 ∧ k ≠ 8 ∧ k ≠ 50 ∧ k ≠ 58 ∧ k ≠ 63 ∧ k ≠ 68 ∧ k ≠ 69 ∧ k ≠ 105)
def rR (R R' : tR) : Prop := (∀ q k, ¬ ((q = 35 ∨ q = 42) ∧ k = 1) → R' q k = R q k) ∧ (R' 35 1 = 10 ∨ R' 35 1 = 20) ∧ (R' 42 1 = 10 ∨ R' 42 1 = 20)
theorem rR_x {R R' : tR} (h : rR R R') (hx : st_Rx R) : st_Rx R' := by
  have hq := h.1
  simp (disch := omega) only [st_Rx, hq, rX hx, and_self]
theorem rR_m {R R' : tR} (h : rR R R') (hx : st_Rm R) : st_Rm R' := by
  have hq := h.1
  simp (disch := omega) only [st_Rm, hq, rM hx, and_self]
theorem rR_t {R R' R'' : tR} (h : rR R R') (h2 : rR R' R'') : rR R R'' := ⟨fun q k e => (h2.1 q k e).trans (h.1 q k e), h2.2⟩
theorem rR_u {R R' : tR} {c o : Nat} (h : rR R R') (hc : c = 10 ∨ c = 20) (ho : o = 35 ∨ o = 42) : rR R (am_up R' o 1 c) := by
  obtain ⟨h1, h2, h3⟩ := h
  refine ⟨fun q k e => ?_, ?_, ?_⟩
  · rw [am_up_o (by omega)]
    exact h1 q k e
  · by_cases q : o = 35
    · subst q
      rw [am_up_e]
      exact hc
    · rw [am_up_o (by omega)]
      exact h2
  · by_cases q : o = 42
    · subst q
      rw [am_up_e]
      exact hc
    · rw [am_up_o (by omega)]
      exact h3
theorem rR_r {R : tR} (h : vMut R) : rR R R := ⟨fun _ _ _ => rfl, h.2.2.1, h.2.2.2.1⟩
theorem dW_n {q k : Nat} (h : dW q k = true) : ¬ sC q k := by
  unfold dW at h
  simp at h
  unfold sC
  omega
theorem vV_s {L : Nat} {xs : Nat → Int32} {I I' : tI} {J J' : tJ} {R R' : tR} (hV : vV restW L xs I J R) (hI : ∀ q k, ¬ sC q k → I' q k = I q k) (hJ : ∀ q k, q ≠ 136 → q ≠ 51 → J' q k = J q k) (hR : rR R R') : vV restW L xs I' J' R' := by
  obtain ⟨⟨h1, h2, hx, hm, ha, hb, hc, hd, he⟩, ht, hr, hf, hp, hs, hsd, hw⟩ := hV
  have g := hR.1
  refine ⟨⟨?_, ?_, rR_x hR hx, rR_m hR hm, ?_, ?_, hR.2.1, hR.2.2, ?_⟩, vTape_cg I I' (fun q k e => hI q k ?_) ht, vRefd_cg I I' (fun q k e => hI q k ?_) hr, vFault_cg I I' (fun q k e => hI q k ?_) hf, vPic_cg I I' (fun q k e => hI q k ?_) hp, vSeen_cg I I' (fun q k e => hI q k ?_) hs, ?_, restW_C I J R I' J' R' (fun q k e => hI q k (dW_n e)) (fun q k e => hJ q k ?_ ?_) (fun q k e => g q k ?_) hw⟩
  · funext k
    rw [hI 1 k (by unfold sC; omega), h1]
  · rw [g _ _ (by omega)]; exact h2
  · rw [g _ _ (by omega), g _ _ (by omega)]; exact ha
  · rw [g _ _ (by omega)]; exact hb
  · rw [g _ _ (by omega)]; exact he
  · unfold dTape at e; simp at e; unfold sC; omega
  · unfold dRefd at e; simp at e; unfold sC; omega
  · unfold dFault at e; simp at e; unfold sC; omega
  · unfold dPic at e; simp at e; unfold sC; omega
  · unfold dSeen at e; simp at e; unfold sC; omega
  · obtain ⟨s, s1, s2, s3⟩ := hsd
    exact ⟨s, s1, by rw [hI _ _ (by unfold sC; omega)]; exact s2, by rw [hJ _ _ (by omega) (by omega)]; exact s3⟩
  · unfold dWJ at e; simp at e; omega
  · unfold dWJ at e; simp at e; omega
  · unfold dWR at e; simp at e; omega
theorem cy_31 {o b : Nat} (ho : o = 35 ∨ o = 42) (hb : b < 6) : am_cy 138 31 (am_i ((11 * b : Nat) : Int) + am_i 5) (o + 6) (am_i 0) (am_i 6) = true := by
  have hb' : b = 0 ∨ b = 1 ∨ b = 2 ∨ b = 3 ∨ b = 4 ∨ b = 5 := by omega
  rcases ho with rfl | rfl <;> rcases hb' with rfl | rfl | rfl | rfl | rfl | rfl <;> decide
section LOAD
variable {d : Nat} {I : tI} {J : tJ} {R : tR} {o c n b : Nat} {s : bt}
theorem x_load (hx : st_Rx R) (ho : o = 35 ∨ o = 42) (hc : c = 10 ∨ c = 20) (hb : b < 6) (hn : I (c + 4) b = am_i n) (hn6 : n ≤ 6) (hs : s.su ≤ 1) (hB : bX (I 31) (11 * b) n s) : Wp (fun r M => ∃ I', r = none ∧ M = (I', J, am_up R o 1 c, 138) ∧ fr (hS o) I I' ∧ hullR o I' n s) (am_E (d + 1) 37 0 [(0, .ref o), (1, .ref c), (2, .ref 31), (3, .int (am_i b))] [] (I, J, R, 138)) := by
  have hx' : st_Rx (am_up R o 1 c) := by
    have hq : ∀ q k, ¬ ((q = 35 ∨ q = 42) ∧ k = 1) → am_up R o 1 c q k = R q k := fun q k e => am_up_o (by omega)
    simp (disch := omega) only [st_Rx, hq, rX hx, and_self]
  obtain ⟨x0, x1, x2, x3, x4, x5⟩ := hB
  have e0 : am_i (b : Int) * am_i 11 = am_i ((11 * b : Nat) : Int) := by rw [am_i_mul]; congr 1; omega
  have n0 : (((11 * b : Nat) : Int) + 0).toNat = 11 * b := by omega
  have n1 : (((11 * b : Nat) : Int) + 1).toNat = 11 * b + 1 := by omega
  have n2 : (((11 * b : Nat) : Int) + 2).toNat = 11 * b + 2 := by omega
  have n3 : (((11 * b : Nat) : Int) + 3).toNat = 11 * b + 3 := by omega
  have n4 : (((11 * b : Nat) : Int) + 4).toNat = 11 * b + 4 := by omega
  have n5 : (((11 * b : Nat) : Int) + 5).toNat = 11 * b + 5 := by omega
  have cy := cy_31 ho hb
  rw [am_i_add] at cy
  have fin : ∀ su : Nat, s.su = su → Wp (fun r M => ∃ I', r = none ∧ M = (I', J, am_up R o 1 c, 138) ∧ fr (hS o) I I' ∧ hullR o I' n s) (some (none, (am_cp (am_up (am_up (am_up (am_up (am_up (am_up I o 2 (I 31 (11 * b))) o 3 (I 31 (11 * b + 1))) o 4 (I 31 (11 * b + 2))) o 5 (am_i su)) o 6 (I 31 (11 * b + 4))) o 7 (I (c + 4) b)) 31 (11 * b + 5) (o + 6) 0 6, J, am_up R o 1 c, 138)) : am_R) := by
    intro su hsu
    refine Wp_r ⟨_, rfl, rfl, fun q k h => ?_, ?_, ?_, ?_, ?_, ?_, ?_, fun k hk => ?_⟩
    · have h' := hS_f.mp h
      rw [am_cp_ap, if_neg (by omega), am_up_o (by omega), am_up_o (by omega), am_up_o (by omega), am_up_o (by omega), am_up_o (by omega), am_up_o (by omega)]
    · rw [am_cp_ap, if_neg (by omega), am_up_o (by omega), am_up_o (by omega), am_up_o (by omega), am_up_o (by omega), am_up_o (by omega), am_up_e, x0]
    · rw [am_cp_ap, if_neg (by omega), am_up_o (by omega), am_up_o (by omega), am_up_o (by omega), am_up_o (by omega), am_up_e, x1]
    · rw [am_cp_ap, if_neg (by omega), am_up_o (by omega), am_up_o (by omega), am_up_o (by omega), am_up_e, x2]
    · rw [am_cp_ap, if_neg (by omega), am_up_o (by omega), am_up_o (by omega), am_up_e, hsu]
    · rw [am_cp_ap, if_neg (by omega), am_up_o (by omega), am_up_e, x4]
    · rw [am_cp_ap, if_neg (by omega), am_up_e, hn]
    · rw [am_cp_ap, if_pos rfl]
      unfold va_cpy
      rw [if_pos (by omega), Nat.sub_zero, am_up_o (by omega), am_up_o (by omega), am_up_o (by omega), am_up_o (by omega), am_up_o (by omega), am_up_o (by omega)]
      exact x5 k hk
  have z9 : am_up R o 1 c c 9 = c + 4 := by rw [am_up_o (by omega)]; exact (rC hx hc).2.2.2.2.1
  have z8 : am_up R o 1 c o 8 = o + 6 := by rw [am_up_o (by omega)]; exact (rH hx ho).2.2.2.1
  rw [sg_X5_load_0]
  by_cases q : s.su = 1
  · rw [q] at x3
    have x3' : I 31 (11 * b + 3) = am_i 1 := x3
    simp (disch := first | assumption | omega) only [am_i_add, am_i_sub, am_i_mul, am_ok_i, am_i_cl, n_lt, n_le, n_eq, n_lt0, n_le0, n_0lt, n_0le, n_eq0, ne_eq, ↓reduceIte, not_true_eq_false, not_false_eq_true, and_true, true_and, and_false, false_and, eq_T, eq_F, lt_T, lt_F, le_T, le_F, qn_T, qn_F, and_F, b01_T, b01_F, e_isIn, Int32.toInt_toInt64, am_i_toInt, am_l_toInt, Int.toNat_natCast, Int.reduceToNat, Int.reduceAdd, Int.reduceSub, Int.reduceMul, Int.reduceNeg, Nat.reduceAdd, Nat.reduceMul, Nat.add_zero, Nat.mul_zero, Nat.zero_add, am_zb0, am_zb1, ly_csx, ly_cf, ↓Bool.cond_decide, cond_true, cond_false, ↓am_let_s, Bool.and_self, rH hx ho, rC hx' hc, e0, n0, n1, n2, n3, n4, n5, z9, z8, cy, am_up_o, x3']
    exact fin 1 q
  · have q0 : s.su = 0 := by omega
    rw [q0] at x3
    have x3' : I 31 (11 * b + 3) = am_i 0 := x3
    simp (disch := first | assumption | omega) only [am_i_add, am_i_sub, am_i_mul, am_ok_i, am_i_cl, n_lt, n_le, n_eq, n_lt0, n_le0, n_0lt, n_0le, n_eq0, ne_eq, ↓reduceIte, not_true_eq_false, not_false_eq_true, and_true, true_and, and_false, false_and, eq_T, eq_F, lt_T, lt_F, le_T, le_F, qn_T, qn_F, and_F, b01_T, b01_F, e_isIn, Int32.toInt_toInt64, am_i_toInt, am_l_toInt, Int.toNat_natCast, Int.reduceToNat, Int.reduceAdd, Int.reduceSub, Int.reduceMul, Int.reduceNeg, Nat.reduceAdd, Nat.reduceMul, Nat.add_zero, Nat.mul_zero, Nat.zero_add, am_zb0, am_zb1, ly_csx, ly_cf, ↓Bool.cond_decide, cond_true, cond_false, ↓am_let_s, Bool.and_self, rH hx ho, rC hx' hc, e0, n0, n1, n2, n3, n4, n5, z9, z8, cy, am_up_o, x3']
    exact fin 0 q0
end LOAD
section PCAR
variable {L : Nat} {xs : Nat → Int32}
theorem p_carry (d : Nat) (a1 a2 : Int32) : pr_L (vV restW L xs) (d + 6) 108 222 [(1, .int a1), (2, .int a2)] := by
  refine pW_L ?_
  intro I J R hV
  have hV0 := hV
  obtain ⟨⟨h1, h2, hx, hm, hmu⟩, ht, hr, hf, hp, hs, hd, hw⟩ := hV
  obtain ⟨c, last, nb, nr, nw, wd, sq, K, nt, wf, fm, h4, hc, hB, hN, hF, ⟨h, s, ⟨hh, e66, g0, hbt⟩, ⟨ek, gk, hkp⟩, hKh⟩, hA, hX⟩ := hw
  obtain ⟨b1, b2, b3, b4, b5, b6, b7, b8, i0, m0, i1, m1, i2, m2, i3, m3, i4, m4, i5, m5, mS, mT, hnt, hky, hwf⟩ := hB
  obtain ⟨z, z1, z2, rfl⟩ := i32_z a1
  obtain ⟨w, w1, w2, rfl⟩ := i32_z a2
  have xB := fun d => e_xisBoat d (am_i z) nb c I J R hx h4 hc b3 i1
  have xN := fun d => e_isNote (d := d) w1 w2
  by_cases hq : (0 ≤ z ∧ z < nb) ∧ 0 ≤ w ∧ w < 8
  · obtain ⟨b, rfl⟩ : ∃ n : Nat, z = n := ⟨z.toNat, by omega⟩
    obtain ⟨v, rfl⟩ : ∃ n : Nat, w = n := ⟨w.toNat, by omega⟩
    have hb : b < nb := by omega
    have hl0 : last ≠ 0 := fun e => by have := (b8 e).1; omega
    obtain ⟨n6, n1, n2⟩ := hnt b hb
    obtain ⟨hO, hb1, hb2⟩ := hbt b hb
    have hXx : cxX c last wd wf fm I := ⟨i0, b2, i4, b6, fun m hm => ⟨(hwf m hm).1, (hwf m hm).2.1⟩, fun f hf => ⟨(hF hl0 f hf).1, (hF hl0 f hf).2.2⟩⟩
    have hXm : cxM last wd nb nt wf fm I := ⟨m0, b2, m4, b6, m1, b3, fun b hb => ⟨(hnt b hb).1, (hnt b hb).2.2⟩, fun m hm => (hwf m hm).2.2, fun f hf => ⟨(hF hl0 f hf).2.1, (hF hl0 f hf).2.2⟩⟩
    refine ⟨am_l (rcS wf fm (s b) v wd), ?_⟩
    have rb := rcS_b (wf := wf) (fm := fm) (s := s b) (v := v) (u := wd)
    rw [sg_X11_carry_0]
    simp (disch := first | assumption | omega) only [rX hx, ly_csx, ly_cax, ly_cf, ly_kd, ly_ln, ↓Bool.cond_decide, cond_true, cond_false, ↓bI_p, ↓bV_p, ↓bL_p, bIJ_s, bVJ_s, bLJ_s, ↓am_let_s, Nat.blt, Nat.ble, Bool.and_true, Bool.true_and, Bool.and_self, Int.cast_ofNat_Int, am_i_add, am_i_sub, am_i_mul, am_ok_i, am_i_cl, n_lt, n_le, n_eq, n_lt0, n_le0, n_0lt, n_0le, n_eq0, ne_eq, ↓reduceIte, not_true_eq_false, not_false_eq_true, and_true, true_and, and_false, false_and, eq_T, eq_F, lt_T, lt_F, le_T, le_F, qn_T, qn_F, and_F, b01_T, b01_F, e_isIn, Int32.toInt_toInt64, am_i_toInt, am_l_toInt, Int.toNat_natCast, Int.reduceToNat, Int.reduceAdd, Int.reduceSub, Int.reduceMul, Int.reduceNeg, Nat.reduceAdd, Nat.reduceMul, Nat.add_zero, Nat.mul_zero, Nat.zero_add, am_zb0, am_zb1, ↓bL_p, h4, rC hx hc, xB, xN, b01_t]
    refine Wp_V (x_load (s := s b) hx (Or.inl rfl) hc (by omega) n1 n6 hO.2.2.2.1 hb1) ?_
    rintro _ _ ⟨I1, rfl, rfl, hf1, hH⟩
    refine ⟨rfl, ?_⟩
    have hR1 : rR R (am_up R 35 1 c) := rR_u (rR_r hmu) hc (Or.inl rfl)
    have hx1 := rR_x hR1 hx
    have hm1 := rR_m hR1 hm
    have h41 : am_up R 35 1 c 3 4 = c := h4
    have hXx1 : cxX c last wd wf fm I1 := cxX_c hc (fun q k a1 a2 => hf1 q k (hS_f.mpr (by omega))) hXx
    have i41 : I1 c 4 = am_i wd := hXx1.2.2.1
    simp (disch := first | assumption | omega) only [am_i_add, am_i_sub, am_i_mul, am_ok_i, am_i_cl, n_lt, n_le, n_eq, n_lt0, n_le0, n_0lt, n_0le, n_eq0, ne_eq, ↓reduceIte, not_true_eq_false, not_false_eq_true, and_true, true_and, and_false, false_and, eq_T, eq_F, lt_T, lt_F, le_T, le_F, qn_T, qn_F, and_F, b01_T, b01_F, e_isIn, Int32.toInt_toInt64, am_i_toInt, am_l_toInt, Int.toNat_natCast, Int.reduceToNat, Int.reduceAdd, Int.reduceSub, Int.reduceMul, Int.reduceNeg, Nat.reduceAdd, Nat.reduceMul, Nat.add_zero, Nat.mul_zero, Nat.zero_add, am_zb0, am_zb1, ly_cf, ↓Bool.cond_decide, cond_true, cond_false, ↓bI_p, bIJ_s, rX hx1, rC hx1 hc, h41, i41]
    refine Wp_I (x_reach (s := s b) hx1 (Or.inl rfl) hc am_up_e hXx1 hO.1 hO.2.1 hO.2.2.1 hH.1 hH.2.1 hH.2.2.1 (by omega) b6) ?_
    rintro _ _ ⟨I2, rfl, rfl, hf2⟩
    refine ⟨_, rfl, ?_⟩
    have g2 : ∀ q k, ¬ (35 ≤ q ∧ q ≤ 41) → I2 q k = I q k := fun q k e => by
      rw [hf2 q k (vS_f (by omega) (by omega) (by omega)), hf1 q k (hS_f.mpr (by omega))]
    refine Wp_r ⟨I2, J, _, by rw [i_tol (by omega) (by omega)], rfl, funext (fun k => g2 1 k (by omega)), rfl, ?_⟩
    have hXm2 : cxM last wd nb nt wf fm I2 := cxM_c (fun q k a1 a2 => g2 q k (by omega)) hXm
    have mB := fun d => e_misBoat d (am_i b) nb I2 J (am_up R 35 1 c) hm1 b3 hXm2.2.2.2.2.1
    have m4' : I2 93 4 = am_i wd := hXm2.2.2.1
    obtain ⟨y1, y2, y3, y4, y5, y6⟩ := bX_i.mp hb2
    rw [sg_X12_carry_0]
    simp (disch := first | assumption | omega) only [ly_csm, ly_cf, am_i_add, am_i_sub, am_i_mul, am_ok_i, am_i_cl, n_lt, n_le, n_eq, n_lt0, n_le0, n_0lt, n_0le, n_eq0, ne_eq, ↓reduceIte, not_true_eq_false, not_false_eq_true, and_true, true_and, and_false, false_and, eq_T, eq_F, lt_T, lt_F, le_T, le_F, qn_T, qn_F, and_F, b01_T, b01_F, e_isIn, Int32.toInt_toInt64, am_i_toInt, am_l_toInt, Int.toNat_natCast, Int.reduceToNat, Int.reduceAdd, Int.reduceSub, Int.reduceMul, Int.reduceNeg, Nat.reduceAdd, Nat.reduceMul, Nat.add_zero, Nat.mul_zero, Nat.zero_add, am_zb0, am_zb1, ↓Bool.cond_decide, cond_true, cond_false, ↓bI_p, bIJ_s, rM hm1, mB, b01_t, m4']
    refine Wp_I (m_carried (s := s b) hm1 (by omega) hXm2 hO.1 hO.2.1 hO.2.2.1 (by rw [g2 _ _ (by omega)]; exact y1) (by rw [g2 _ _ (by omega)]; exact y2) (by rw [g2 _ _ (by omega)]; exact y3) (by omega) b6) ?_
    rintro _ _ ⟨I3, J3, rfl, rfl, hf3, hj3⟩
    refine ⟨_, rfl, Wp_r ⟨I3, J3, _, by rw [i_tol (by omega) (by omega)], rfl, vV_s hV0 (fun q k e => ?_) (fun q k e1 e2 => hj3 q k e1) hR1⟩⟩
    unfold sC at e
    rw [hf3 q k (mS_f.mpr (by omega)), g2 q k (by omega)]
  · refine ⟨am_l (-1000000000000000), ?_⟩
    have mB := fun d => e_misBoat d (am_i z) nb I J R hm b3 m1
    have cl : am_E (d + 6) 108 0 [(0, .ref 3), (1, .int (am_i z)), (2, .int (am_i w))] [] (I, J, R, 138) = some (some (.long (am_l (-1000000000000000))), (I, J, R, 138)) := by
      rw [sg_X11_carry_0]
      by_cases hq2 : 0 ≤ z ∧ z < nb
      · simp (disch := first | assumption | omega) only [rX hx, ly_csx, ly_cax, ly_cf, ly_kd, ly_ln, ↓Bool.cond_decide, cond_true, cond_false, ↓bI_p, ↓bV_p, ↓bL_p, bIJ_s, bVJ_s, bLJ_s, ↓am_let_s, Nat.blt, Nat.ble, Bool.and_true, Bool.true_and, Bool.and_self, Int.cast_ofNat_Int, am_i_add, am_i_sub, am_i_mul, am_ok_i, am_i_cl, n_lt, n_le, n_eq, n_lt0, n_le0, n_0lt, n_0le, n_eq0, ne_eq, ↓reduceIte, not_true_eq_false, not_false_eq_true, and_true, true_and, and_false, false_and, eq_T, eq_F, lt_T, lt_F, le_T, le_F, qn_T, qn_F, and_F, b01_T, b01_F, e_isIn, Int32.toInt_toInt64, am_i_toInt, am_l_toInt, Int.toNat_natCast, Int.reduceToNat, Int.reduceAdd, Int.reduceSub, Int.reduceMul, Int.reduceNeg, Nat.reduceAdd, Nat.reduceMul, Nat.add_zero, Nat.mul_zero, Nat.zero_add, am_zb0, am_zb1, h4, rC hx hc, xB, xN, b01_t, b01_f, sg_X11_carry_15]
      · simp (disch := first | assumption | omega) only [rX hx, ly_csx, ly_cax, ly_cf, ly_kd, ly_ln, ↓Bool.cond_decide, cond_true, cond_false, ↓bI_p, ↓bV_p, ↓bL_p, bIJ_s, bVJ_s, bLJ_s, ↓am_let_s, Nat.blt, Nat.ble, Bool.and_true, Bool.true_and, Bool.and_self, Int.cast_ofNat_Int, am_i_add, am_i_sub, am_i_mul, am_ok_i, am_i_cl, n_lt, n_le, n_eq, n_lt0, n_le0, n_0lt, n_0le, n_eq0, ne_eq, ↓reduceIte, not_true_eq_false, not_false_eq_true, and_true, true_and, and_false, false_and, eq_T, eq_F, lt_T, lt_F, le_T, le_F, qn_T, qn_F, and_F, b01_T, b01_F, e_isIn, Int32.toInt_toInt64, am_i_toInt, am_l_toInt, Int.toNat_natCast, Int.reduceToNat, Int.reduceAdd, Int.reduceSub, Int.reduceMul, Int.reduceNeg, Nat.reduceAdd, Nat.reduceMul, Nat.add_zero, Nat.mul_zero, Nat.zero_add, am_zb0, am_zb1, h4, rC hx hc, xB, xN, b01_f, sg_X11_carry_15]
    refine Wp_e cl (Wp_r ⟨I, J, R, rfl, rfl, rfl, rfl, ?_⟩)
    have cm : am_E (d + 6) 222 0 [(0, .ref 64), (1, .int (am_i z)), (2, .int (am_i w))] [] (I, J, R, 138) = some (some (.long (am_l (-1000000000000000))), (I, J, R, 138)) := by
      rw [sg_X12_carry_0]
      by_cases hq2 : 0 ≤ z ∧ z < nb
      · simp (disch := first | assumption | omega) only [rM hm, ly_csm, ly_cam, ly_cf, ly_kd, ly_ln, ↓Bool.cond_decide, cond_true, cond_false, ↓bI_p, ↓bV_p, ↓bL_p, bIJ_s, bVJ_s, bLJ_s, ↓am_let_s, Nat.blt, Nat.ble, Bool.and_true, Bool.true_and, Bool.and_self, Int.cast_ofNat_Int, am_i_add, am_i_sub, am_i_mul, am_ok_i, am_i_cl, n_lt, n_le, n_eq, n_lt0, n_le0, n_0lt, n_0le, n_eq0, ne_eq, ↓reduceIte, not_true_eq_false, not_false_eq_true, and_true, true_and, and_false, false_and, eq_T, eq_F, lt_T, lt_F, le_T, le_F, qn_T, qn_F, and_F, b01_T, b01_F, e_isIn, Int32.toInt_toInt64, am_i_toInt, am_l_toInt, Int.toNat_natCast, Int.reduceToNat, Int.reduceAdd, Int.reduceSub, Int.reduceMul, Int.reduceNeg, Nat.reduceAdd, Nat.reduceMul, Nat.add_zero, Nat.mul_zero, Nat.zero_add, am_zb0, am_zb1, mB, b01_t, b01_f, sg_X12_carry_36]
      · simp (disch := first | assumption | omega) only [rM hm, ly_csm, ly_cam, ly_cf, ly_kd, ly_ln, ↓Bool.cond_decide, cond_true, cond_false, ↓bI_p, ↓bV_p, ↓bL_p, bIJ_s, bVJ_s, bLJ_s, ↓am_let_s, Nat.blt, Nat.ble, Bool.and_true, Bool.true_and, Bool.and_self, Int.cast_ofNat_Int, am_i_add, am_i_sub, am_i_mul, am_ok_i, am_i_cl, n_lt, n_le, n_eq, n_lt0, n_le0, n_0lt, n_0le, n_eq0, ne_eq, ↓reduceIte, not_true_eq_false, not_false_eq_true, and_true, true_and, and_false, false_and, eq_T, eq_F, lt_T, lt_F, le_T, le_F, qn_T, qn_F, and_F, b01_T, b01_F, e_isIn, Int32.toInt_toInt64, am_i_toInt, am_l_toInt, Int.toNat_natCast, Int.reduceToNat, Int.reduceAdd, Int.reduceSub, Int.reduceMul, Int.reduceNeg, Nat.reduceAdd, Nat.reduceMul, Nat.add_zero, Nat.mul_zero, Nat.zero_add, am_zb0, am_zb1, mB, b01_f, sg_X12_carry_36]
    exact Wp_e cm (Wp_r ⟨I, J, R, rfl, rfl, hV0⟩)
end PCAR
