section PTEL
variable {d : Nat} {J : tJ} {R : tR} {nb : Nat} {L : Nat} {xs : Nat → Int32}
def tlT (mo : Nat → Nat) (B H : Nat) : Int × Nat := if B = 0 then (-1, 7) else tlS mo H 0 (-1) 7
def tlA (w : Int) (t : Int × Nat) : Int := if t.1 = -1 then -1 else if w = 0 then t.1 else if w = 1 then t.2 else -1
theorem tlT_0 {mo : Nat → Nat} {B : Nat} (h : B ≠ 0) : tlT mo B 0 = (-1, 7) := if_neg h
theorem tlT_1 {mo : Nat → Nat} {B m : Nat} (h : B ≠ 0) (hmo : mo 0 ≤ 6) : tlT mo B (m + 1) = tlS mo m 1 0 (mo 0) := by
  unfold tlT
  rw [if_neg h]
  exact if_pos (by omega)
theorem tlT_b {mo : Nat → Nat} {B H : Nat} (hmo : ∀ k, k < H → mo k ≤ 6) : -1 ≤ (tlT mo B H).1 ∧ (tlT mo B H).1 ≤ H := by
  by_cases q : B = 0
  · unfold tlT
    rw [if_pos q]
    exact ⟨by show (-1 : Int) ≤ -1; omega, by show (-1 : Int) ≤ H; omega⟩
  · cases H with
    | zero => rw [tlT_0 q]; exact ⟨by show (-1 : Int) ≤ -1; omega, by show (-1 : Int) ≤ _; omega⟩
    | succ m =>
      rw [tlT_1 q (hmo 0 (by omega))]
      have := tlS_b (mo := mo) m 1 0 (mo 0) (by omega) (by omega)
      omega
theorem x_weigh0 {I0 : tI} {B H : Nat} {mo : Nat → Nat} (hx : st_Rx R) (hH : H ≤ 31) (hB : B < 64) (h3 : I0 57 3 = am_i H) (hmo : ∀ k, k < H → mo k ≤ 6) (hml : ∀ k I, k < H → (∀ q j, ¬ wgC q j → I q j = I0 q j) → ∃ I', am_E (d + 2) 35 0 [(0, .ref 57), (1, .int (am_i B)), (2, .int (am_i k))] [] (I, J, R, 138) = some (some (.int (am_i (mo k))), (I', J, R, 138)) ∧ ∀ q j, q ≠ 60 → I' q j = I q j) : ∃ I', am_E (d + 3) 34 0 [(0, .ref 57), (1, .int (am_i B))] [] (I0, J, R, 138) = some (some (.int (am_i (if (tlT mo B H).1 = -1 then 0 else 1))), (I', J, R, 138)) ∧ I' 57 5 = am_i (tlT mo B H).1 ∧ I' 57 6 = am_i (tlT mo B H).2 ∧ ∀ q j, ¬ wgC q j → I' q j = I0 q j := by
  have tb := tlT_b (B := B) hmo
  have fin : ∀ I', I' 57 5 = am_i (tlT mo B H).1 → am_E (d + 3) 34 56 [(0, .ref 57)] [] (I', J, R, 138) = some (some (.int (am_i (if (tlT mo B H).1 = -1 then 0 else 1))), (I', J, R, 138)) := by
    intro I' h5
    rw [sg_X4_weigh_56]
    generalize (tlT mo B H).1 = t at *
    by_cases q : t = -1
    · simp (disch := first | assumption | omega) only [am_i_add, am_i_sub, am_i_mul, am_ok_i, am_i_cl, n_lt, n_le, n_eq, n_lt0, n_le0, n_0lt, n_0le, n_eq0, ne_eq, ↓reduceIte, not_true_eq_false, not_false_eq_true, and_true, true_and, and_false, false_and, eq_T, eq_F, lt_T, lt_F, le_T, le_F, qn_T, qn_F, and_F, b01_T, b01_F, e_isIn, Int32.toInt_toInt64, am_i_toInt, am_l_toInt, Int.toNat_natCast, Int.reduceToNat, Int.reduceAdd, Int.reduceSub, Int.reduceMul, Int.reduceNeg, Nat.reduceAdd, Nat.reduceMul, Nat.add_zero, Nat.mul_zero, Nat.zero_add, am_zb0, am_zb1, ↓Bool.cond_decide, cond_true, cond_false, ↓am_let_s, ↓bI_p, bIJ_s, ↓bV_p, bVJ_s, ↓bL_p, bLJ_s, ly_cf, Bool.and_self, Bool.and_true, h5]
    · simp (disch := first | assumption | omega) only [am_i_add, am_i_sub, am_i_mul, am_ok_i, am_i_cl, n_lt, n_le, n_eq, n_lt0, n_le0, n_0lt, n_0le, n_eq0, ne_eq, ↓reduceIte, not_true_eq_false, not_false_eq_true, and_true, true_and, and_false, false_and, eq_T, eq_F, lt_T, lt_F, le_T, le_F, qn_T, qn_F, and_F, b01_T, b01_F, e_isIn, Int32.toInt_toInt64, am_i_toInt, am_l_toInt, Int.toNat_natCast, Int.reduceToNat, Int.reduceAdd, Int.reduceSub, Int.reduceMul, Int.reduceNeg, Nat.reduceAdd, Nat.reduceMul, Nat.add_zero, Nat.mul_zero, Nat.zero_add, am_zb0, am_zb1, ↓Bool.cond_decide, cond_true, cond_false, ↓am_let_s, ↓bI_p, bIJ_s, ↓bV_p, bVJ_s, ↓bL_p, bLJ_s, ly_cf, Bool.and_self, Bool.and_true, h5, if_neg q]
  have g : ∀ q j, ¬ wgC q j → am_up (am_up I0 57 5 (am_i (-1))) 57 6 (am_i 7) q j = I0 q j := fun q j e => by
    unfold wgC at e
    rw [am_up_o (by omega), am_up_o (by omega)]
  have g5 : am_up (am_up I0 57 5 (am_i (-1))) 57 6 (am_i 7) 57 5 = am_i (-1) := by rw [am_up_o (by omega), am_up_e]
  have g6 : am_up (am_up I0 57 5 (am_i (-1))) 57 6 (am_i 7) 57 6 = am_i ((7 : Nat) : Int) := am_up_e
  have e3 : am_up (am_up I0 57 5 (am_i (-1))) 57 6 (am_i 7) 57 3 = am_i H := by rw [g _ _ (by unfold wgC; omega)]; exact h3
  rw [sg_X4_weigh_0]
  simp only [↓Bool.cond_decide, cond_true, cond_false, ↓am_let_s, ↓bI_p, bIJ_s, ↓bV_p, bVJ_s, ↓bL_p, bLJ_s, ly_cf, Bool.and_self, Bool.and_true]
  generalize am_up (am_up I0 57 5 (am_i (-1))) 57 6 (am_i 7) = I1 at *
  by_cases q : B = 0
  · have tt : tlT mo B H = (-1, 7) := if_pos q
    refine ⟨I1, ?_, by rw [tt]; exact g5, by rw [tt]; exact g6, g⟩
    rw [← fin I1 (by rw [tt]; exact g5), sg_X4_weigh_13]
    by_cases q2 : H = 0
    · simp (disch := first | assumption | omega) only [am_i_add, am_i_sub, am_i_mul, am_ok_i, am_i_cl, n_lt, n_le, n_eq, n_lt0, n_le0, n_0lt, n_0le, n_eq0, ne_eq, ↓reduceIte, not_true_eq_false, not_false_eq_true, and_true, true_and, and_false, false_and, eq_T, eq_F, lt_T, lt_F, le_T, le_F, qn_T, qn_F, and_F, b01_T, b01_F, e_isIn, Int32.toInt_toInt64, am_i_toInt, am_l_toInt, Int.toNat_natCast, Int.reduceToNat, Int.reduceAdd, Int.reduceSub, Int.reduceMul, Int.reduceNeg, Nat.reduceAdd, Nat.reduceMul, Nat.add_zero, Nat.mul_zero, Nat.zero_add, am_zb0, am_zb1, ↓Bool.cond_decide, cond_true, cond_false, ↓am_let_s, ↓bI_p, bIJ_s, ↓bV_p, bVJ_s, ↓bL_p, bLJ_s, ly_cf, Bool.and_self, Bool.and_true, e3]
    · simp (disch := first | assumption | omega) only [am_i_add, am_i_sub, am_i_mul, am_ok_i, am_i_cl, n_lt, n_le, n_eq, n_lt0, n_le0, n_0lt, n_0le, n_eq0, ne_eq, ↓reduceIte, not_true_eq_false, not_false_eq_true, and_true, true_and, and_false, false_and, eq_T, eq_F, lt_T, lt_F, le_T, le_F, qn_T, qn_F, and_F, b01_T, b01_F, e_isIn, Int32.toInt_toInt64, am_i_toInt, am_l_toInt, Int.toNat_natCast, Int.reduceToNat, Int.reduceAdd, Int.reduceSub, Int.reduceMul, Int.reduceNeg, Nat.reduceAdd, Nat.reduceMul, Nat.add_zero, Nat.mul_zero, Nat.zero_add, am_zb0, am_zb1, ↓Bool.cond_decide, cond_true, cond_false, ↓am_let_s, ↓bI_p, bIJ_s, ↓bV_p, bVJ_s, ↓bL_p, bLJ_s, ly_cf, Bool.and_self, Bool.and_true, e3]
  · have tt : tlT mo B H = tlS mo H 0 (-1) 7 := if_neg q
    obtain ⟨I', p1, p2, p3, p4⟩ := x_weigh (d := d) (J := J) (R := R) (I0 := I0) hx hH q hB h3 hmo hml H 0 (-1) 7 I1 (by omega) (by omega) g g5 g6
    have p1' : am_E (d + 3) 34 13 [(0, .ref 57), (1, .int (am_i B)), (2, .int (am_i 0))] [] (I1, J, R, 138) = _ := p1
    refine ⟨I', ?_, by rw [tt]; exact p2, by rw [tt]; exact p3, p4⟩
    rw [p1', fin I' (by rw [tt]; exact p2)]
theorem p_tells (d : Nat) (a1 : Int32) : pr_I (vV restW L xs) (d + 11) 122 247 [(1, .int a1)] := by
  refine pW_I ?_
  intro I J R hV
  have hV0 := hV
  obtain ⟨⟨h1, h2, hx, hm, hmu⟩, ht, hr, hf, hp, hs, hd, hw⟩ := hV
  obtain ⟨c, last, nb, nr, nw, wd, sq, K, nt, wf, fm, h4, hc, hB, hN, hF, ⟨h, s, ⟨hh, e66, g0, hbt⟩, ⟨ek, gk, hkp⟩, hKh⟩, hA, hX⟩ := hw
  obtain ⟨b1, b2, b3, b4, b5, b6, b7, b8, i0, m0, i1, m1, i2, m2, i3, m3, i4, m4, i5, m5, mS, mT, hnt, hky, hwf⟩ := hB
  obtain ⟨w, w1, w2, rfl⟩ := i32_z a1
  obtain ⟨n, U, V, hn, s1, s2, hUV⟩ := seen_UV hs
  have hXx : last ≠ 0 → cxX c last wd wf fm I := fun hl0 => ⟨i0, b2, i4, b6, fun m hm => ⟨(hwf m hm).1, (hwf m hm).2.1⟩, fun f hf => ⟨(hF hl0 f hf).1, (hF hl0 f hf).2.2⟩⟩
  obtain ⟨P, hP⟩ : ∃ P : Nat → Bool, P = fun b => fiR (min 31 (999 - h)) U V (fun j => hdS last wf fm wd (nt b) j (s b)) n 0 := ⟨_, rfl⟩
  obtain ⟨mo, hmo⟩ : ∃ mo : Nat → Nat, mo = fun k => mxS (fun b => decide (b < nb) && P b) (fun b => hdS last wf fm wd (nt b) k (s b)) nb := ⟨_, rfl⟩
  obtain ⟨B, hB⟩ : ∃ B : Nat, B = fiS P nb 0 0 := ⟨_, rfl⟩
  have B64 : B < 64 := by rw [hB]; exact fiS_64 nb 0 0 (by omega) (by omega)
  have hp : ∀ b, b < 6 → B / 2 ^ b % 2 = if b < nb ∧ P b = true then 1 else 0 := fun b hb => by
    rw [hB, fiS_t nb 0 0 (by decide), Nat.zero_div, Nat.zero_add]
    by_cases q : b < nb ∧ P b = true
    · rw [if_pos q, if_pos ⟨by omega, q.1, q.2⟩]
    · rw [if_neg q, if_neg (fun x => q x.2)]
  have mo6 : ∀ k, k < min 31 (999 - h) → mo k ≤ 6 := fun k _ => by
    have := mxS_b (p := fun b => decide (b < nb) && P b) (f := fun b => hdS last wf fm wd (nt b) k (s b)) nb
    rw [hmo]
    show mxS _ _ nb ≤ 6
    omega
  refine ⟨am_i (tlA w (tlT mo B (min 31 (999 - h)))), ?_⟩
  rw [sg_X11_tells_0]
  simp (disch := first | assumption | omega) only [rX hx, ly_csx, ly_cax, ly_cf, ly_kd, ly_ln, ↓Bool.cond_decide, cond_true, cond_false, ↓bI_p, ↓bV_p, ↓bL_p, bIJ_s, bVJ_s, bLJ_s, ↓am_let_s, Nat.blt, Nat.ble, Bool.and_true, Bool.true_and, Bool.and_self, Int.cast_ofNat_Int, am_i_add, am_i_sub, am_i_mul, am_ok_i, am_i_cl, n_lt, n_le, n_eq, n_lt0, n_le0, n_0lt, n_0le, n_eq0, ne_eq, ↓reduceIte, not_true_eq_false, not_false_eq_true, and_true, true_and, and_false, false_and, eq_T, eq_F, lt_T, lt_F, le_T, le_F, qn_T, qn_F, and_F, b01_T, b01_F, e_isIn, Int32.toInt_toInt64, am_i_toInt, am_l_toInt, Int.toNat_natCast, Int.reduceToNat, Int.reduceAdd, Int.reduceSub, Int.reduceMul, Int.reduceNeg, Nat.reduceAdd, Nat.reduceMul, Nat.add_zero, Nat.mul_zero, Nat.zero_add, am_zb0, am_zb1, h4]
  refine Wp_V (x_listen (d := d + 3) (s := s) (h := h) (wd := wd) (wf := wf) (fm := fm) hx (rR_r hmu) hc b3 hh e66 hXx (fun e => (b8 e).1) i1 (fun b hb => ⟨(hnt b hb).1, (hnt b hb).2.1⟩) (fun b hb => ⟨(hbt b hb).1, (hbt b hb).2.1⟩)) ?_
  rintro _ _ ⟨I1, R1, rfl, rfl, r1, r2, r3, r4, r5⟩
  refine ⟨rfl, ?_⟩
  have hx1 := rR_x r1 hx
  have hm1 := rR_m r1 hm
  have h41 : R1 3 4 = c := by rw [r1.1 _ _ (by omega)]; exact h4
  have e1 : I1 c 1 = am_i nb := by rw [r2 _ _ (by unfold liC; omega)]; exact i1
  have hpf : ∀ d b, b < nb → am_E (d + 1) 33 2 [(0, .ref 57), (1, .int (am_i b)), (2, .int (am_i 0))] [] (I1, J, R1, 138) = some (some (.int (b01 (P b = true))), (I1, J, R1, 138)) := fun d b hb => by
    rw [hP]
    exact x_fits (d := d) (J := J) (n := n) (H := min 31 (999 - h)) (b := b) (U := U) (V := V) (hd := fun j => hdS last wf fm wd (nt b) j (s b)) hx1 hn (by omega) (by omega) (by rw [r2 _ _ (by unfold liC; omega)]; exact s1) (fun r hr => ⟨(hUV r hr).1, (hUV r hr).2.1, by rw [r2 _ _ (by unfold liC; omega)]; exact (hUV r hr).2.2.1, by rw [r2 _ _ (by unfold liC; omega)]; exact (hUV r hr).2.2.2.1⟩) (fun j hj => ⟨hdS_b j (hbt b hb).1, r4 b hb j hj⟩) (fun j j1 j2 => r5 _ (by omega) (fun b' hb' => by omega)) n 0 (by omega)
  have fx : ∀ d, am_E (d + 2) 32 4 [(0, .ref 57), (1, .int (am_i nb)), (2, .int (am_i 0)), (3, .int (am_i 0))] [] (I1, J, R1, 138) = some (some (.int (am_i B)), (I1, J, R1, 138)) := fun d => by
    rw [hB]
    exact x_fitting (d := d) (J := J) (R := R1) (I := I1) b3 hpf nb 0 0 (by omega) (by omega)
  obtain ⟨I2, v1, v2, v3, v4⟩ := x_weigh0 (d := d + 7) (J := J) (R := R1) (I0 := I1) (B := B) (H := min 31 (999 - h)) (mo := mo) hx1 (by omega) B64 r3 mo6 (fun k I' hk hI' => by
    rw [hmo]
    exact x_mostLeft (d := d + 7) (J := J) (R := R1) (I := I') (B := B) (k := k) (p := P) (f := fun b => hdS last wf fm wd (nt b) k (s b)) hx1 b3 B64 (by omega) hp (fun b hb => ⟨hdS_b k (hbt b hb).1, by rw [hI' _ _ (by unfold wgC; omega)]; exact r4 b hb k hk⟩))
  have tb := tlT_b (mo := mo) (B := B) (H := min 31 (999 - h)) mo6
  have g : ∀ q k, ¬ sC q k → I2 q k = I q k := fun q k e => by
    rw [v4 q k (by unfold sC at e; unfold wgC; omega), r2 q k (by unfold sC at e; unfold liC; omega)]
  have cl : am_E (d + 11) 122 0 [(0, .ref 3), (1, .int (am_i w))] [] (I, J, R, 138) = am_E (d + 11) 122 0 [(0, .ref 3), (1, .int (am_i w))] [] (I, J, R, 138) := rfl
  have nx : Wp (fun q' M' => ∃ I2' J2 R2, q' = some (.int (am_i (tlA w (tlT mo B (min 31 (999 - h)))))) ∧ M' = (I2', J2, R2, 138) ∧ vV restW L xs I2' J2 R2) (am_E (d + 11) 247 0 [(0, .ref 64), (1, .int (am_i w))] [] (I2, J, R1, 138)) := by
    have e50 : I2 64 50 = am_i (if last = 0 then 0 else 1) := by rw [g _ _ (by unfold sC; omega)]; exact mS
    rw [sg_X12_tells_0]
    by_cases hl0 : last = 0
    · rw [if_pos hl0] at e50
      simp (disch := first | assumption | omega) only [↓Bool.cond_decide, cond_true, cond_false, ↓am_let_s, ↓bI_p, bIJ_s, ↓bV_p, bVJ_s, ↓bL_p, bLJ_s, ly_cf, Bool.and_self, Bool.and_true, am_i_add, am_i_sub, am_i_mul, am_ok_i, am_i_cl, n_lt, n_le, n_eq, n_lt0, n_le0, n_0lt, n_0le, n_eq0, ne_eq, ↓reduceIte, not_true_eq_false, not_false_eq_true, and_true, true_and, and_false, false_and, eq_T, eq_F, lt_T, lt_F, le_T, le_F, qn_T, qn_F, and_F, b01_T, b01_F, e_isIn, Int32.toInt_toInt64, am_i_toInt, am_l_toInt, Int.toNat_natCast, Int.reduceToNat, Int.reduceAdd, Int.reduceSub, Int.reduceMul, Int.reduceNeg, Nat.reduceAdd, Nat.reduceMul, Nat.add_zero, Nat.mul_zero, Nat.zero_add, am_zb0, am_zb1, e50, sg_X12_tells_17]
      have nb0 := (b8 hl0).1
      refine Wp_r ⟨I2, J, R1, ?_, rfl, vV_s hV0 g (fun _ _ _ _ => rfl) r1⟩
      have B0 : B = 0 := by rw [hB, nb0]; rfl
      have : tlT mo B (min 31 (999 - h)) = (-1, 7) := if_pos B0
      rw [this]
      rfl
    · rw [if_neg hl0] at e50
      by_cases hw : 0 ≤ w ∧ w ≤ 1
      · have hXm : cxM last wd nb nt wf fm I2 := cxM_c (fun q k a1 a2 => g q k (by unfold sC; omega)) ⟨m0, b2, m4, b6, m1, b3, fun b hb => ⟨(hnt b hb).1, (hnt b hb).2.2⟩, fun m hm => (hwf m hm).2.2, fun f hf => ⟨(hF hl0 f hf).2.1, (hF hl0 f hf).2.2⟩⟩
        have hRM : rwM nb nt last h s I2 := rwM_c ⟨hh, g0, fun b hb => ⟨(hbt b hb).1, (hbt b hb).2.2⟩⟩ b3 (fun b hb => (hnt b hb).1) (fun k _ => g _ _ (by unfold sC; omega))
        simp (disch := first | assumption | omega) only [↓Bool.cond_decide, cond_true, cond_false, ↓am_let_s, ↓bI_p, bIJ_s, ↓bV_p, bVJ_s, ↓bL_p, bLJ_s, ly_cf, Bool.and_self, Bool.and_true, am_i_add, am_i_sub, am_i_mul, am_ok_i, am_i_cl, n_lt, n_le, n_eq, n_lt0, n_le0, n_0lt, n_0le, n_eq0, ne_eq, ↓reduceIte, not_true_eq_false, not_false_eq_true, and_true, true_and, and_false, false_and, eq_T, eq_F, lt_T, lt_F, le_T, le_F, qn_T, qn_F, and_F, b01_T, b01_F, e_isIn, Int32.toInt_toInt64, am_i_toInt, am_l_toInt, Int.toNat_natCast, Int.reduceToNat, Int.reduceAdd, Int.reduceSub, Int.reduceMul, Int.reduceNeg, Nat.reduceAdd, Nat.reduceMul, Nat.add_zero, Nat.mul_zero, Nat.zero_add, am_zb0, am_zb1, e50, sg_X12_seenSet_0]
        refine Wp_I (Wp_V (m_lays (d := d) (J := J) hm1 hXm (by rw [g _ _ (by unfold sC; omega)]; exact mT) hRM) (Q := fun q' M' => ∃ I3 J3, q' = some (.int (am_i B)) ∧ M' = (I3, J3, R1, 138) ∧ frJ J J3 ∧ (∀ q k, ¬ sC q k → I3 q k = I2 q k) ∧ I3 64 66 = am_i (min 31 (999 - h) : Nat) ∧ ∀ b, b < nb → ∀ j, j < min 31 (999 - h) → I3 109 (31 * b + j) = am_i (hdS last wf fm wd (nt b) j (s b))) ?_) ?_
        · rintro _ _ ⟨I3, J3, rfl, rfl, p1, p2, p3, p4⟩
          refine ⟨rfl, ?_⟩
          have hq : ∀ d b, b < nb → am_E (d + 1) 243 2 [(0, .ref 64), (1, .int (am_i b)), (2, .int (am_i 0))] [] (I3, J3, R1, 138) = some (some (.int (b01 (P b = true))), (I3, J3, R1, 138)) := fun d b hb => by
            rw [hP]
            exact m_seen (d := d) (J := J3) (n := n) (H := min 31 (999 - h)) (b := b) (U := U) (V := V) (hd := fun j => hdS last wf fm wd (nt b) j (s b)) hm1 hn (by omega) (by omega) (by rw [p2 _ _ (by unfold sC; omega), g _ _ (by unfold sC; omega)]; exact s2) p3 (fun r hr => ⟨(hUV r hr).1, (hUV r hr).2.1, by rw [p2 _ _ (by unfold sC; omega), g _ _ (by unfold sC; omega)]; exact (hUV r hr).2.2.2.2.1, by rw [p2 _ _ (by unfold sC; omega), g _ _ (by unfold sC; omega)]; exact (hUV r hr).2.2.2.2.2⟩) (fun j hj => ⟨hdS_b j (hbt b hb).1, p4 b hb j hj⟩) n 0 (by omega)
          have fx : am_E (d + 10) 244 8 [(0, .ref 64), (1, .int (am_i 0)), (2, .int (am_i 0))] [] (I3, J3, R1, 138) = some (some (.int (am_i B)), (I3, J3, R1, 138)) := by
            rw [hB]
            exact m_set (d := d + 8) (J := J3) (R := R1) (I := I3) hm1 b3 (by rw [p2 _ _ (by unfold sC; omega)]; exact hXm.2.2.2.2.1) hq nb 0 0 (by omega) (by omega)
          exact Wp_e fx (Wp_r ⟨I3, J3, rfl, rfl, p1, p2, p3, p4⟩)
        · rintro _ _ ⟨I3, J3, rfl, rfl, p1, p2, p3, p4⟩
          refine ⟨_, rfl, ?_⟩
          have hml : ∀ k, k < min 31 (999 - h) → am_E (d + 10) 246 0 [(0, .ref 64), (1, .int (am_i B)), (2, .int (am_i k))] [] (I3, J3, R1, 138) = some (some (.int (am_i (mo k))), (I3, J3, R1, 138)) := fun k hk => by
            have := m_ma5 (d := d + 8) (J := J3) (R := R1) (I := I3) (B := B) (k := k) (p := P) (f := fun b => hdS last wf fm wd (nt b) k (s b)) hm1 b3 B64 (by omega) (by rw [p2 _ _ (by unfold sC; omega)]; exact hXm.2.2.2.2.1) hp (fun b hb => ⟨hdS_b k (hbt b hb).1, p4 b hb k hk⟩) 9 0 (by omega)
            rw [sg_X12_mostAlike_0, hmo]
            exact this
          have f82 : ∀ t : Int × Nat, -1 ≤ t.1 → t.1 ≤ 31 → am_E (d + 11) 247 82 [(1, .int (am_i w)), (3, .int (am_i t.1)), (4, .int (am_i t.2))] [] (I3, J3, R1, 138) = some (some (.int (am_i (tlA w t))), (I3, J3, R1, 138)) := by
            intro t t1 t2
            rw [sg_X12_tells_82]
            unfold tlA
            by_cases q : t.1 = -1
            · simp (disch := first | assumption | omega) only [am_i_add, am_i_sub, am_i_mul, am_ok_i, am_i_cl, n_lt, n_le, n_eq, n_lt0, n_le0, n_0lt, n_0le, n_eq0, ne_eq, ↓reduceIte, not_true_eq_false, not_false_eq_true, and_true, true_and, and_false, false_and, eq_T, eq_F, lt_T, lt_F, le_T, le_F, qn_T, qn_F, and_F, b01_T, b01_F, e_isIn, Int32.toInt_toInt64, am_i_toInt, am_l_toInt, Int.toNat_natCast, Int.reduceToNat, Int.reduceAdd, Int.reduceSub, Int.reduceMul, Int.reduceNeg, Nat.reduceAdd, Nat.reduceMul, Nat.add_zero, Nat.mul_zero, Nat.zero_add, am_zb0, am_zb1, ↓Bool.cond_decide, cond_true, cond_false, ↓am_let_s, ↓bI_p, bIJ_s, ↓bV_p, bVJ_s, ↓bL_p, bLJ_s, ly_cf, Bool.and_self, Bool.and_true]
            · by_cases q0 : w = 0
              · simp (disch := first | assumption | omega) only [am_i_add, am_i_sub, am_i_mul, am_ok_i, am_i_cl, n_lt, n_le, n_eq, n_lt0, n_le0, n_0lt, n_0le, n_eq0, ne_eq, ↓reduceIte, not_true_eq_false, not_false_eq_true, and_true, true_and, and_false, false_and, eq_T, eq_F, lt_T, lt_F, le_T, le_F, qn_T, qn_F, and_F, b01_T, b01_F, e_isIn, Int32.toInt_toInt64, am_i_toInt, am_l_toInt, Int.toNat_natCast, Int.reduceToNat, Int.reduceAdd, Int.reduceSub, Int.reduceMul, Int.reduceNeg, Nat.reduceAdd, Nat.reduceMul, Nat.add_zero, Nat.mul_zero, Nat.zero_add, am_zb0, am_zb1, ↓Bool.cond_decide, cond_true, cond_false, ↓am_let_s, ↓bI_p, bIJ_s, ↓bV_p, bVJ_s, ↓bL_p, bLJ_s, ly_cf, Bool.and_self, Bool.and_true, if_neg q, if_pos q0]
              · simp (disch := first | assumption | omega) only [am_i_add, am_i_sub, am_i_mul, am_ok_i, am_i_cl, n_lt, n_le, n_eq, n_lt0, n_le0, n_0lt, n_0le, n_eq0, ne_eq, ↓reduceIte, not_true_eq_false, not_false_eq_true, and_true, true_and, and_false, false_and, eq_T, eq_F, lt_T, lt_F, le_T, le_F, qn_T, qn_F, and_F, b01_T, b01_F, e_isIn, Int32.toInt_toInt64, am_i_toInt, am_l_toInt, Int.toNat_natCast, Int.reduceToNat, Int.reduceAdd, Int.reduceSub, Int.reduceMul, Int.reduceNeg, Nat.reduceAdd, Nat.reduceMul, Nat.add_zero, Nat.mul_zero, Nat.zero_add, am_zb0, am_zb1, ↓Bool.cond_decide, cond_true, cond_false, ↓am_let_s, ↓bI_p, bIJ_s, ↓bV_p, bVJ_s, ↓bL_p, bLJ_s, ly_cf, Bool.and_self, Bool.and_true, if_neg q, if_neg q0, if_pos (show w = 1 by omega)]
          have V3 : vV restW L xs I3 J3 R1 := vV_s hV0 (fun q k e => by rw [p2 q k e, g q k e]) (fun q k e1 e2 => p1 q k e1) r1
          by_cases q : B = 0
          · have tt : tlT mo B (min 31 (999 - h)) = (-1, 7) := if_pos q
            have f := f82 (-1, 0) (by show (-1 : Int) ≤ -1; omega) (by show (-1 : Int) ≤ 31; omega)
            have f' : am_E (d + 11) 247 82 [(1, .int (am_i w)), (3, .int (am_i (-1))), (4, .int (am_i 0))] [] (I3, J3, R1, 138) = _ := f
            rw [sg_X12_tells_32]
            by_cases q2 : min 31 (999 - h) = 0
            · rw [q2] at p3
              simp (disch := first | assumption | omega) only [rM hm, ly_csm, ly_cam, ly_cf, ly_kd, ly_ln, ↓Bool.cond_decide, cond_true, cond_false, ↓bI_p, ↓bV_p, ↓bL_p, bIJ_s, bVJ_s, bLJ_s, ↓am_let_s, Nat.blt, Nat.ble, Bool.and_true, Bool.true_and, Bool.and_self, Int.cast_ofNat_Int, am_i_add, am_i_sub, am_i_mul, am_ok_i, am_i_cl, n_lt, n_le, n_eq, n_lt0, n_le0, n_0lt, n_0le, n_eq0, ne_eq, ↓reduceIte, not_true_eq_false, not_false_eq_true, and_true, true_and, and_false, false_and, eq_T, eq_F, lt_T, lt_F, le_T, le_F, qn_T, qn_F, and_F, b01_T, b01_F, e_isIn, Int32.toInt_toInt64, am_i_toInt, am_l_toInt, Int.toNat_natCast, Int.reduceToNat, Int.reduceAdd, Int.reduceSub, Int.reduceMul, Int.reduceNeg, Nat.reduceAdd, Nat.reduceMul, Nat.add_zero, Nat.mul_zero, Nat.zero_add, am_zb0, am_zb1, p3, f']
              exact Wp_r ⟨I3, J3, R1, by rw [tt]; rfl, rfl, V3⟩
            · simp (disch := first | assumption | omega) only [rM hm, ly_csm, ly_cam, ly_cf, ly_kd, ly_ln, ↓Bool.cond_decide, cond_true, cond_false, ↓bI_p, ↓bV_p, ↓bL_p, bIJ_s, bVJ_s, bLJ_s, ↓am_let_s, Nat.blt, Nat.ble, Bool.and_true, Bool.true_and, Bool.and_self, Int.cast_ofNat_Int, am_i_add, am_i_sub, am_i_mul, am_ok_i, am_i_cl, n_lt, n_le, n_eq, n_lt0, n_le0, n_0lt, n_0le, n_eq0, ne_eq, ↓reduceIte, not_true_eq_false, not_false_eq_true, and_true, true_and, and_false, false_and, eq_T, eq_F, lt_T, lt_F, le_T, le_F, qn_T, qn_F, and_F, b01_T, b01_F, e_isIn, Int32.toInt_toInt64, am_i_toInt, am_l_toInt, Int.toNat_natCast, Int.reduceToNat, Int.reduceAdd, Int.reduceSub, Int.reduceMul, Int.reduceNeg, Nat.reduceAdd, Nat.reduceMul, Nat.add_zero, Nat.mul_zero, Nat.zero_add, am_zb0, am_zb1, p3, f']
              exact Wp_r ⟨I3, J3, R1, by rw [tt]; rfl, rfl, V3⟩
          · by_cases q2 : min 31 (999 - h) = 0
            · have tt : tlT mo B (min 31 (999 - h)) = (-1, 7) := by rw [q2]; exact tlT_0 q
              have f := f82 (-1, 0) (by show (-1 : Int) ≤ -1; omega) (by show (-1 : Int) ≤ 31; omega)
              have f' : am_E (d + 11) 247 82 [(1, .int (am_i w)), (3, .int (am_i (-1))), (4, .int (am_i 0))] [] (I3, J3, R1, 138) = _ := f
              rw [q2] at p3
              rw [sg_X12_tells_32]
              simp (disch := first | assumption | omega) only [rM hm, ly_csm, ly_cam, ly_cf, ly_kd, ly_ln, ↓Bool.cond_decide, cond_true, cond_false, ↓bI_p, ↓bV_p, ↓bL_p, bIJ_s, bVJ_s, bLJ_s, ↓am_let_s, Nat.blt, Nat.ble, Bool.and_true, Bool.true_and, Bool.and_self, Int.cast_ofNat_Int, am_i_add, am_i_sub, am_i_mul, am_ok_i, am_i_cl, n_lt, n_le, n_eq, n_lt0, n_le0, n_0lt, n_0le, n_eq0, ne_eq, ↓reduceIte, not_true_eq_false, not_false_eq_true, and_true, true_and, and_false, false_and, eq_T, eq_F, lt_T, lt_F, le_T, le_F, qn_T, qn_F, and_F, b01_T, b01_F, e_isIn, Int32.toInt_toInt64, am_i_toInt, am_l_toInt, Int.toNat_natCast, Int.reduceToNat, Int.reduceAdd, Int.reduceSub, Int.reduceMul, Int.reduceNeg, Nat.reduceAdd, Nat.reduceMul, Nat.add_zero, Nat.mul_zero, Nat.zero_add, am_zb0, am_zb1, p3, f']
              exact Wp_r ⟨I3, J3, R1, by rw [tt]; rfl, rfl, V3⟩
            · obtain ⟨H, hH⟩ : ∃ H, min 31 (999 - h) = H + 1 := ⟨min 31 (999 - h) - 1, by omega⟩
              have tt : tlT mo B (min 31 (999 - h)) = tlS mo H 1 0 (mo 0) := by rw [hH]; exact tlT_1 q (mo6 0 (by omega))
              have mo0 := mo6 0 (by omega)
              have ml0 : am_E (d + 10) 246 0 [(0, .ref 64), (1, .int (am_i B)), (2, .int (am_i 0))] [] (I3, J3, R1, 138) = _ := hml 0 (by omega)
              have lp : am_E (d + 11) 247 32 [(0, .ref 64), (1, .int (am_i w)), (2, .int (am_i B)), (3, .int (am_i 0)), (4, .int (am_i (mo 0))), (5, .int (am_i 1))] [] (I3, J3, R1, 138) = _ := m_t32 (d := d + 8) (J := J3) (R := R1) (w := w) (I := I3) (B := B) (H := min 31 (999 - h)) (mo := mo) hm1 (by omega) q B64 p3 mo6 hml H 1 0 (mo 0) (by omega) (by omega) (by omega) (by omega)
              have ts := tlS_b (mo := mo) H 1 0 (mo 0) (by omega) (by omega)
              rw [sg_X12_tells_32]
              simp (disch := first | assumption | omega) only [rM hm, ly_csm, ly_cam, ly_cf, ly_kd, ly_ln, ↓Bool.cond_decide, cond_true, cond_false, ↓bI_p, ↓bV_p, ↓bL_p, bIJ_s, bVJ_s, bLJ_s, ↓am_let_s, Nat.blt, Nat.ble, Bool.and_true, Bool.true_and, Bool.and_self, Int.cast_ofNat_Int, am_i_add, am_i_sub, am_i_mul, am_ok_i, am_i_cl, n_lt, n_le, n_eq, n_lt0, n_le0, n_0lt, n_0le, n_eq0, ne_eq, ↓reduceIte, not_true_eq_false, not_false_eq_true, and_true, true_and, and_false, false_and, eq_T, eq_F, lt_T, lt_F, le_T, le_F, qn_T, qn_F, and_F, b01_T, b01_F, e_isIn, Int32.toInt_toInt64, am_i_toInt, am_l_toInt, Int.toNat_natCast, Int.reduceToNat, Int.reduceAdd, Int.reduceSub, Int.reduceMul, Int.reduceNeg, Nat.reduceAdd, Nat.reduceMul, Nat.add_zero, Nat.mul_zero, Nat.zero_add, am_zb0, am_zb1, p3, ml0, sg_X12_tells_69, sg_X12_tells_76, lp, f82]
              exact Wp_r ⟨I3, J3, R1, by rw [tt], rfl, V3⟩
      · simp (disch := first | assumption | omega) only [↓Bool.cond_decide, cond_true, cond_false, ↓am_let_s, ↓bI_p, bIJ_s, ↓bV_p, bVJ_s, ↓bL_p, bLJ_s, ly_cf, Bool.and_self, Bool.and_true, am_i_add, am_i_sub, am_i_mul, am_ok_i, am_i_cl, n_lt, n_le, n_eq, n_lt0, n_le0, n_0lt, n_0le, n_eq0, ne_eq, ↓reduceIte, not_true_eq_false, not_false_eq_true, and_true, true_and, and_false, false_and, eq_T, eq_F, lt_T, lt_F, le_T, le_F, qn_T, qn_F, and_F, b01_T, b01_F, e_isIn, Int32.toInt_toInt64, am_i_toInt, am_l_toInt, Int.toNat_natCast, Int.reduceToNat, Int.reduceAdd, Int.reduceSub, Int.reduceMul, Int.reduceNeg, Nat.reduceAdd, Nat.reduceMul, Nat.add_zero, Nat.mul_zero, Nat.zero_add, am_zb0, am_zb1, e50, sg_X12_tells_17]
        refine Wp_r ⟨I2, J, R1, ?_, rfl, vV_s hV0 g (fun _ _ _ _ => rfl) r1⟩
        unfold tlA
        rw [if_neg (fun e => hw ⟨by omega, by omega⟩ : ¬ w = 0), if_neg (fun e => hw ⟨by omega, by omega⟩ : ¬ w = 1)]
        split <;> rfl
  have fn : ∀ v, v = am_i (tlA w (tlT mo B (min 31 (999 - h)))) → Wp (fun q M => ∃ I1 J1 R1, q = some (.int (am_i (tlA w (tlT mo B (min 31 (999 - h)))))) ∧ M = (I1, J1, R1, 138) ∧ I1 1 = I 1 ∧ R1 0 0 = R 0 0 ∧ Wp (fun q' M' => ∃ I2 J2 R2, q' = some (.int (am_i (tlA w (tlT mo B (min 31 (999 - h)))))) ∧ M' = (I2, J2, R2, 138) ∧ vV restW L xs I2 J2 R2) (am_E (d + 11) 247 0 [(0, .ref 64), (1, .int (am_i w))] [] (I1, J1, R1, 138))) (some (some (.int v), (I2, J, R1, 138)) : am_R) := fun v hv => Wp_r ⟨I2, J, R1, by rw [hv], rfl, funext (fun k => g 1 k (by unfold sC; omega)), r1.1 _ _ (by omega), nx⟩
  by_cases q : (tlT mo B (min 31 (999 - h))).1 = -1
  · rw [if_pos q] at v1
    simp (disch := first | assumption | omega) only [am_i_add, am_i_sub, am_i_mul, am_ok_i, am_i_cl, n_lt, n_le, n_eq, n_lt0, n_le0, n_0lt, n_0le, n_eq0, ne_eq, ↓reduceIte, not_true_eq_false, not_false_eq_true, and_true, true_and, and_false, false_and, eq_T, eq_F, lt_T, lt_F, le_T, le_F, qn_T, qn_F, and_F, b01_T, b01_F, e_isIn, Int32.toInt_toInt64, am_i_toInt, am_l_toInt, Int.toNat_natCast, Int.reduceToNat, Int.reduceAdd, Int.reduceSub, Int.reduceMul, Int.reduceNeg, Nat.reduceAdd, Nat.reduceMul, Nat.add_zero, Nat.mul_zero, Nat.zero_add, am_zb0, am_zb1, ↓Bool.cond_decide, cond_true, cond_false, ↓am_let_s, ↓bI_p, bIJ_s, ↓bV_p, bVJ_s, ↓bL_p, bLJ_s, ly_cf, Bool.and_self, Bool.and_true, rX hx1, h41, rC hx1 hc, e1, sg_X4_fitting_0, fx, v1]
    exact fn _ (by unfold tlA; rw [if_pos q])
  · rw [if_neg q] at v1
    by_cases q0 : w = 0
    · simp (disch := first | assumption | omega) only [am_i_add, am_i_sub, am_i_mul, am_ok_i, am_i_cl, n_lt, n_le, n_eq, n_lt0, n_le0, n_0lt, n_0le, n_eq0, ne_eq, ↓reduceIte, not_true_eq_false, not_false_eq_true, and_true, true_and, and_false, false_and, eq_T, eq_F, lt_T, lt_F, le_T, le_F, qn_T, qn_F, and_F, b01_T, b01_F, e_isIn, Int32.toInt_toInt64, am_i_toInt, am_l_toInt, Int.toNat_natCast, Int.reduceToNat, Int.reduceAdd, Int.reduceSub, Int.reduceMul, Int.reduceNeg, Nat.reduceAdd, Nat.reduceMul, Nat.add_zero, Nat.mul_zero, Nat.zero_add, am_zb0, am_zb1, ↓Bool.cond_decide, cond_true, cond_false, ↓am_let_s, ↓bI_p, bIJ_s, ↓bV_p, bVJ_s, ↓bL_p, bLJ_s, ly_cf, Bool.and_self, Bool.and_true, rX hx1, h41, rC hx1 hc, e1, sg_X4_fitting_0, fx, v1]
      exact fn _ (by unfold tlA; rw [if_neg q, if_pos q0, v2])
    · by_cases q1 : w = 1
      · simp (disch := first | assumption | omega) only [am_i_add, am_i_sub, am_i_mul, am_ok_i, am_i_cl, n_lt, n_le, n_eq, n_lt0, n_le0, n_0lt, n_0le, n_eq0, ne_eq, ↓reduceIte, not_true_eq_false, not_false_eq_true, and_true, true_and, and_false, false_and, eq_T, eq_F, lt_T, lt_F, le_T, le_F, qn_T, qn_F, and_F, b01_T, b01_F, e_isIn, Int32.toInt_toInt64, am_i_toInt, am_l_toInt, Int.toNat_natCast, Int.reduceToNat, Int.reduceAdd, Int.reduceSub, Int.reduceMul, Int.reduceNeg, Nat.reduceAdd, Nat.reduceMul, Nat.add_zero, Nat.mul_zero, Nat.zero_add, am_zb0, am_zb1, ↓Bool.cond_decide, cond_true, cond_false, ↓am_let_s, ↓bI_p, bIJ_s, ↓bV_p, bVJ_s, ↓bL_p, bLJ_s, ly_cf, Bool.and_self, Bool.and_true, rX hx1, h41, rC hx1 hc, e1, sg_X4_fitting_0, fx, v1]
        exact fn _ (by unfold tlA; rw [if_neg q, if_neg q0, if_pos q1, v3])
      · simp (disch := first | assumption | omega) only [am_i_add, am_i_sub, am_i_mul, am_ok_i, am_i_cl, n_lt, n_le, n_eq, n_lt0, n_le0, n_0lt, n_0le, n_eq0, ne_eq, ↓reduceIte, not_true_eq_false, not_false_eq_true, and_true, true_and, and_false, false_and, eq_T, eq_F, lt_T, lt_F, le_T, le_F, qn_T, qn_F, and_F, b01_T, b01_F, e_isIn, Int32.toInt_toInt64, am_i_toInt, am_l_toInt, Int.toNat_natCast, Int.reduceToNat, Int.reduceAdd, Int.reduceSub, Int.reduceMul, Int.reduceNeg, Nat.reduceAdd, Nat.reduceMul, Nat.add_zero, Nat.mul_zero, Nat.zero_add, am_zb0, am_zb1, ↓Bool.cond_decide, cond_true, cond_false, ↓am_let_s, ↓bI_p, bIJ_s, ↓bV_p, bVJ_s, ↓bL_p, bLJ_s, ly_cf, Bool.and_self, Bool.and_true, rX hx1, h41, rC hx1 hc, e1, sg_X4_fitting_0, fx, v1]
        exact fn _ (by unfold tlA; rw [if_neg q, if_neg q0, if_neg q1])
end PTEL
