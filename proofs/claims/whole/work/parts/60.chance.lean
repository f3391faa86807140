/-! ===== chance ===== -/
def nxS (s : Nat) : Nat := (1103515245 * s + 12345) % 2147483648
theorem nxS_b (s : Nat) : nxS s < 2147483648 := Nat.mod_lt _ (by decide)
theorem dvN {a b : Nat} (ha : a < 2147483648) (hb : b < 2147483648) : am_i (a : Int) / am_i (b : Int) = am_i ((a / b : Nat) : Int) := by
  rw [i_div (by omega) (by omega) (by omega) (by omega), Int.tdiv_eq_ediv_of_nonneg (by omega)]
  congr 1
theorem mdN {a b : Nat} (ha : a < 2147483648) (hb : b < 2147483648) : am_i (a : Int) - am_i (a : Int) / am_i (b : Int) * am_i (b : Int) = am_i ((a % b : Nat) : Int) := by
  rw [dvN ha hb, am_i_mul, am_i_sub]
  congr 1
  have := Nat.div_add_mod a b
  have e : ((a / b : Nat) : Int) * (b : Int) = ((b * (a / b) : Nat) : Int) := by rw [Nat.mul_comm]; exact (Int.natCast_mul _ _).symm
  rw [e]
  omega
theorem dvL {a b : Nat} (ha : a < 9223372036854775808) (hb : b < 9223372036854775808) : am_l (a : Int) / am_l (b : Int) = am_l ((a / b : Nat) : Int) := by
  rw [l_div (by omega) (by omega) (by omega) (by omega), Int.tdiv_eq_ediv_of_nonneg (by omega)]
  congr 1
theorem mdL {a b : Nat} (ha : a < 9223372036854775808) (hb : b < 9223372036854775808) : am_l (a : Int) - am_l (a : Int) / am_l (b : Int) * am_l (b : Int) = am_l ((a % b : Nat) : Int) := by
  rw [dvL ha hb, am_l_mul, am_l_sub]
  congr 1
  have := Nat.div_add_mod a b
  have e : ((a / b : Nat) : Int) * (b : Int) = ((b * (a / b) : Nat) : Int) := by rw [Nat.mul_comm]; exact (Int.natCast_mul _ _).symm
  rw [e]
  omega
section CHANCE
variable {d : Nat} {R0 R : tR} {c last wd nb : Nat} {nt wf : Nat → Nat} {fm : Nat → List tok}
theorem x_draw {I : tI} {J : tJ} {sd m : Nat} (hsd : sd < 2147483648) (hm1 : 1 ≤ m) (hm : m ≤ 100) (e : I 3 17 = am_i sd) : am_E (d + 1) 159 0 [(0, .ref 3), (1, .int (am_i m))] [] (I, J, R, 138) = some (some (.int (am_i ((nxS sd / 64 % m : Nat) : Int))), (am_up I 3 17 (am_i (nxS sd)), J, R, 138)) := by
  have hb := nxS_b sd
  have e1 : ((am_i 1103515245 * am_i (sd : Int)) + am_i 12345) &&& am_i 2147483647 = am_i (nxS sd) := by
    rw [am_i_mul, am_i_add]
    exact s_2 (1103515245 * sd + 12345) 31
  have n64 : (!am_i 64 == 0) = true := by decide
  have nm := inz (a := (m : Int)) (by omega) (by omega) (by omega)
  have e2 : am_i (nxS sd : Int) / am_i 64 = am_i ((nxS sd / 64 : Nat) : Int) := dvN hb (by decide)
  have e3 := mdN (a := nxS sd / 64) (b := m) (by omega) (by omega)
  have q : ¬ am_i (m : Int) ≤ 0 := by rw [n_le0 (by omega) (by omega)]; omega
  rw [sg_X11_draw_0]
  simp (disch := first | assumption | omega) only [ly_cf, ↓Bool.cond_decide, cond_true, cond_false, ↓am_let_s, ↓bI_p, bIJ_s, ↓bV_p, bVJ_s, ↓bL_p, bLJ_s, ly_cf, Bool.and_self, Bool.and_true, e, e1, am_up_e, n64, nm, e2, e3, q, if_false]
theorem m_draw {I : tI} {J : tJ} {sd m : Nat} (hsd : sd < 2147483648) (hm1 : 1 ≤ m) (hm : m ≤ 100) (e : J 64 70 = am_l sd) : am_E (d + 1) 257 0 [(0, .ref 64), (1, .int (am_i m))] [] (I, J, R, 138) = some (some (.int (am_i ((nxS sd / 64 % m : Nat) : Int))), (I, am_up J 64 70 (am_l (nxS sd)), R, 138)) := by
  have hb := nxS_b sd
  have e0 : am_l 1103515245 * am_l (sd : Int) + am_l 12345 = am_l ((1103515245 * sd + 12345 : Nat) : Int) := by
    rw [am_l_mul, am_l_add]
    rfl
  have e1 : am_l ((1103515245 * sd + 12345 : Nat) : Int) - am_l ((1103515245 * sd + 12345 : Nat) : Int) / am_l 2147483648 * am_l 2147483648 = am_l (nxS sd) := mdL (b := 2147483648) (by omega) (by decide)
  have n64 : (!am_l 64 == 0) = true := by decide
  have nz : (!am_l 2147483648 == 0) = true := by decide
  have tm : (am_i (m : Int)).toInt64 = am_l m := i_tol (by omega) (by omega)
  have nm := lnz (a := (m : Int)) (by omega) (by omega) (by omega)
  have e2 : am_l (nxS sd : Int) / am_l 64 = am_l ((nxS sd / 64 : Nat) : Int) := dvL (by omega) (by decide)
  have e3 := mdL (a := nxS sd / 64) (b := m) (by omega) (by omega)
  rw [sg_X12_drawOf_0]
  simp (disch := first | assumption | omega) only [ly_cf, ↓Bool.cond_decide, cond_true, cond_false, ↓am_let_s, ↓bI_p, bIJ_s, ↓bV_p, bVJ_s, ↓bL_p, bLJ_s, ly_cf, Bool.and_self, Bool.and_true, e, e0, e1, am_up_e, n64, nz, tm, nm, e2, e3, l_toi]
/-- the winds of so many hours, how many squalls, the seed behind them -/
def chS (wd sq : Nat) : Nat → Nat → List Nat × Nat × Nat
  | 0, sd => ([], 0, sd)
  | m + 1, sd => if nxS sd / 64 % 100 < sq then (nxS (nxS sd) / 64 % 10 :: (chS wd sq m (nxS (nxS sd))).1, (chS wd sq m (nxS (nxS sd))).2.1 + 1, (chS wd sq m (nxS (nxS sd))).2.2) else (wd :: (chS wd sq m (nxS sd)).1, (chS wd sq m (nxS sd)).2.1, (chS wd sq m (nxS sd)).2.2)
theorem chS_l {wd sq : Nat} : ∀ (m sd : Nat), (chS wd sq m sd).1.length = m
  | 0, _ => rfl
  | m + 1, sd => by
    unfold chS
    split
    · show (chS wd sq m _).1.length + 1 = m + 1
      rw [chS_l m]
    · show (chS wd sq m _).1.length + 1 = m + 1
      rw [chS_l m]
theorem chS_b {wd sq : Nat} : ∀ (m sd : Nat), sd < 2147483648 → (chS wd sq m sd).2.2 < 2147483648
  | 0, _, h => h
  | m + 1, sd, h => by
    unfold chS
    split
    · exact chS_b m _ (nxS_b _)
    · exact chS_b m _ (nxS_b _)
theorem x_ch {I0 : tI} {J : tJ} {z sq : Nat} (hx0 : st_Rx R0) (h40 : R0 3 4 = c) (hc : c = 10 ∨ c = 20) (h6 : nb ≤ 6) (hX : cxX c last wd wf fm I0) (hI1 : I0 c 1 = am_i nb) (hsq : I0 c 5 = am_i sq) (hsq1 : sq ≤ 100) (hnt : ∀ b, b < nb → nt b ≤ 6 ∧ I0 (c + 4) b = am_i (nt b)) (hz : z ≤ 100) : ∀ (m i h sd qn : Nat) (s : Nat → bt) (L : List ent) (I : tI) (R : tR), i + m = z → h + m ≤ 999 → sd < 2147483648 → L.length + 6 * m ≤ 8000 → xRq nb nt last h s (am_up I0 3 17 (am_i sd)) R0 L I R → Wp (fun r M => ∃ I' R', r = some (.int (am_i (qn + (chS wd sq m sd).2.1 : Nat))) ∧ M = (I', J, R', 138) ∧ xRq nb nt last (h + m) (ruS last wf fm nt (chS wd sq m sd).1 s) (am_up I0 3 17 (am_i (chS wd sq m sd).2.2)) R0 (L ++ ruL last nb wf fm nt (chS wd sq m sd).1 h s) I' R' ∧ ∀ k, (∀ j, L.length ≤ j → j < L.length + (ruL last nb wf fm nt (chS wd sq m sd).1 h s).length → k ≠ j % 256) → I' 32 k = I 32 k) (am_E (d + 9) 128 31 [(0, .ref 3), (1, .int (am_i z)), (2, .int (am_i qn)), (3, .int (am_i i))] [] (I, J, R, 138))
  | 0, i, h, sd, qn, s, L, I, R, hi, hh, hsd, hL, hq => by
    rw [sg_X11_chance_31]
    simp (disch := first | assumption | omega) only [am_i_add, am_i_sub, am_i_mul, am_ok_i, am_i_cl, n_lt, n_le, n_eq, n_lt0, n_le0, n_0lt, n_0le, n_eq0, ne_eq, ↓reduceIte, not_true_eq_false, not_false_eq_true, and_true, true_and, and_false, false_and, eq_T, eq_F, lt_T, lt_F, le_T, le_F, qn_T, qn_F, and_F, b01_T, b01_F, e_isIn, Int32.toInt_toInt64, am_i_toInt, am_l_toInt, Int.toNat_natCast, Int.reduceToNat, Int.reduceAdd, Int.reduceSub, Int.reduceMul, Int.reduceNeg, Nat.reduceAdd, Nat.reduceMul, Nat.add_zero, Nat.mul_zero, Nat.zero_add, am_zb0, am_zb1, ↓Bool.cond_decide, cond_true, cond_false, ↓am_let_s, ↓bI_p, bIJ_s, ↓bV_p, bVJ_s, ↓bL_p, bLJ_s, ly_cf, Bool.and_self, Bool.and_true]
    refine Wp_r ⟨I, R, rfl, rfl, ?_, fun _ _ => rfl⟩
    show xRq nb nt last h s (am_up I0 3 17 (am_i sd)) R0 (L ++ []) I R
    rw [List.append_nil]
    exact hq
  | m + 1, i, h, sd, qn, s, L, I, R, hi, hh, hsd, hL, hq => by
    have hxR := rR_x hq.1 hx0
    have h4R : R 3 4 = c := by rw [hq.1.1 _ _ (by omega)]; exact h40
    have gI : ∀ q k, ¬ xHc q → q ≠ 3 → I q k = I0 q k := fun q k e1 e2 => by rw [hq.2.1 q k e1, am_up_o (by omega)]
    have e4 : I c 4 = am_i wd := by rw [gI _ _ (by unfold xHc; omega) (by omega)]; exact hX.2.2.1
    have e5 : I c 5 = am_i sq := by rw [gI _ _ (by unfold xHc; omega) (by omega)]; exact hsq
    have e17 : I 3 17 = am_i sd := by rw [hq.2.1 _ _ (by unfold xHc; omega), am_up_e]
    have hX' : ∀ v, cxX c last wd wf fm (am_up I0 3 17 v) := fun v => cxX_c hc (fun q k a1 a2 => am_up_o (by omega)) hX
    /- a seed drawn on -/
    have drw : ∀ (I : tI) (v v' : Nat), xRq nb nt last h s (am_up I0 3 17 (am_i v)) R0 L I R → xRq nb nt last h s (am_up I0 3 17 (am_i v')) R0 L (am_up I 3 17 (am_i v')) R := fun I v v' hq => by
      obtain ⟨p1, p2, p3, p4⟩ := hq
      refine ⟨p1, fun q k e => ?_, p3, p4⟩
      by_cases e2 : q = 3 ∧ k = 17
      · rw [e2.1, e2.2, am_up_e, am_up_e]
      · rw [am_up_o e2, am_up_o e2, p2 q k e, am_up_o e2]
    have D1 : ∀ d, am_E (d + 1) 159 0 [(0, .ref 3), (1, .int (am_i 100))] [] (I, J, R, 138) = some (some (.int (am_i ((nxS sd / 64 % 100 : Nat) : Int))), (am_up I 3 17 (am_i (nxS sd)), J, R, 138)) := fun d => x_draw (m := 100) hsd (by omega) (by omega) e17
    have D2 : ∀ d, am_E (d + 1) 159 0 [(0, .ref 3), (1, .int (am_i 10))] [] (am_up I 3 17 (am_i (nxS sd)), J, R, 138) = some (some (.int (am_i ((nxS (nxS sd) / 64 % 10 : Nat) : Int))), (am_up (am_up I 3 17 (am_i (nxS sd))) 3 17 (am_i (nxS (nxS sd))), J, R, 138)) := fun d => x_draw (m := 10) (nxS_b _) (by omega) (by omega) am_up_e
    have b100 : nxS sd / 64 % 100 < 100 := Nat.mod_lt _ (by decide)
    have b10 : nxS (nxS sd) / 64 % 10 < 10 := Nat.mod_lt _ (by decide)
    /- the hour itself, and on -/
    have hour : ∀ (I : tI) (u sd' qn' : Nat), u ≤ 9 → sd' < 2147483648 → xRq nb nt last h s (am_up I0 3 17 (am_i sd')) R0 L I R → Wp (fun r M => ∃ I' R', r = some (.int (am_i (qn' + (chS wd sq m sd').2.1 : Nat))) ∧ M = (I', J, R', 138) ∧ xRq nb nt last (h + (m + 1)) (ruS last wf fm nt (u :: (chS wd sq m sd').1) s) (am_up I0 3 17 (am_i (chS wd sq m sd').2.2)) R0 (L ++ ruL last nb wf fm nt (u :: (chS wd sq m sd').1) h s) I' R' ∧ ∀ k, (∀ j, L.length ≤ j → j < L.length + (ruL last nb wf fm nt (u :: (chS wd sq m sd').1) h s).length → k ≠ j % 256) → I' 32 k = I 32 k) (am_E (d + 9) 128 72 [(0, .ref 3), (1, .int (am_i z)), (2, .int (am_i qn')), (3, .int (am_i i)), (4, .int (am_i u))] [] (I, J, R, 138)) := by
      intro I u sd' qn' hu hsd' hq
      rw [sg_X11_chance_72]
      simp (disch := first | assumption | omega) only [am_i_add, am_i_sub, am_i_mul, am_ok_i, am_i_cl, n_lt, n_le, n_eq, n_lt0, n_le0, n_0lt, n_0le, n_eq0, ne_eq, ↓reduceIte, not_true_eq_false, not_false_eq_true, and_true, true_and, and_false, false_and, eq_T, eq_F, lt_T, lt_F, le_T, le_F, qn_T, qn_F, and_F, b01_T, b01_F, e_isIn, Int32.toInt_toInt64, am_i_toInt, am_l_toInt, Int.toNat_natCast, Int.reduceToNat, Int.reduceAdd, Int.reduceSub, Int.reduceMul, Int.reduceNeg, Nat.reduceAdd, Nat.reduceMul, Nat.add_zero, Nat.mul_zero, Nat.zero_add, am_zb0, am_zb1, ↓Bool.cond_decide, cond_true, cond_false, ↓am_let_s, ↓bI_p, bIJ_s, ↓bV_p, bVJ_s, ↓bL_p, bLJ_s, ly_cf, Bool.and_self, Bool.and_true]
      refine Wp_I (x_hour (u := u) hx0 h40 hc hu (by omega) h6 (hX' _) (by rw [am_up_o (by omega)]; exact hI1) (fun b hb => ⟨(hnt b hb).1, by rw [am_up_o (by omega)]; exact (hnt b hb).2⟩) (by omega) hq) ?_
      rintro _ _ ⟨I1, R1, rfl, rfl, hq1, hr1⟩
      refine ⟨_, rfl, ?_⟩
      have hle := entF_l (last := last) (wf := wf) (fm := fm) (u := u) (h := h) (nt := nt) (s := s) nb 0
      simp (disch := first | assumption | omega) only [am_i_add, am_i_sub, am_i_mul, am_ok_i, am_i_cl, n_lt, n_le, n_eq, n_lt0, n_le0, n_0lt, n_0le, n_eq0, ne_eq, ↓reduceIte, not_true_eq_false, not_false_eq_true, and_true, true_and, and_false, false_and, eq_T, eq_F, lt_T, lt_F, le_T, le_F, qn_T, qn_F, and_F, b01_T, b01_F, e_isIn, Int32.toInt_toInt64, am_i_toInt, am_l_toInt, Int.toNat_natCast, Int.reduceToNat, Int.reduceAdd, Int.reduceSub, Int.reduceMul, Int.reduceNeg, Nat.reduceAdd, Nat.reduceMul, Nat.add_zero, Nat.mul_zero, Nat.zero_add, am_zb0, am_zb1, ↓Bool.cond_decide, cond_true, cond_false, ↓am_let_s, ↓bI_p, bIJ_s, ↓bV_p, bVJ_s, ↓bL_p, bLJ_s, ly_cf, Bool.and_self, Bool.and_true, am_i_s]
      refine Wp_m (x_ch hx0 h40 hc h6 hX hI1 hsq hsq1 hnt hz m (i + 1) (h + 1) sd' qn' _ _ I1 R1 (by omega) (by omega) hsd' (by rw [List.length_append]; omega) hq1) ?_
      rintro _ _ ⟨I2, R2, rfl, rfl, hq2, hr2⟩
      refine ⟨I2, R2, rfl, rfl, ?_, fun k hk => ?_⟩
      · rw [show h + (m + 1) = h + 1 + m by omega]
        show xRq nb nt last (h + 1 + m) (ruS last wf fm nt (chS wd sq m sd').1 (hrS last wf fm nt u s)) _ R0 (L ++ (entF (entB last wf fm u h nt s) 0 nb ++ ruL last nb wf fm nt (chS wd sq m sd').1 (h + 1) (hrS last wf fm nt u s))) I2 R2
        rw [← List.append_assoc]
        exact hq2
      · have hlen : (ruL last nb wf fm nt (u :: (chS wd sq m sd').1) h s).length = (entF (entB last wf fm u h nt s) 0 nb).length + (ruL last nb wf fm nt (chS wd sq m sd').1 (h + 1) (hrS last wf fm nt u s)).length := List.length_append
        rw [hr2 k (fun j j1 j2 => hk j (by rw [List.length_append] at j1; omega) (by rw [List.length_append] at j2; omega)), hr1 k (fun j j1 j2 => hk j j1 (by omega))]
    have e5' : ∀ v, am_up I 3 17 v c 5 = am_i sq := fun v => by rw [am_up_o (by omega)]; exact e5
    rw [sg_X11_chance_31]
    by_cases qs : nxS sd / 64 % 100 < sq
    · have ec : chS wd sq (m + 1) sd = (nxS (nxS sd) / 64 % 10 :: (chS wd sq m (nxS (nxS sd))).1, (chS wd sq m (nxS (nxS sd))).2.1 + 1, (chS wd sq m (nxS (nxS sd))).2.2) := if_pos qs
      rw [ec]
      simp (disch := first | assumption | omega) only [am_i_add, am_i_sub, am_i_mul, am_ok_i, am_i_cl, n_lt, n_le, n_eq, n_lt0, n_le0, n_0lt, n_0le, n_eq0, ne_eq, ↓reduceIte, not_true_eq_false, not_false_eq_true, and_true, true_and, and_false, false_and, eq_T, eq_F, lt_T, lt_F, le_T, le_F, qn_T, qn_F, and_F, b01_T, b01_F, e_isIn, Int32.toInt_toInt64, am_i_toInt, am_l_toInt, Int.toNat_natCast, Int.reduceToNat, Int.reduceAdd, Int.reduceSub, Int.reduceMul, Int.reduceNeg, Nat.reduceAdd, Nat.reduceMul, Nat.add_zero, Nat.mul_zero, Nat.zero_add, am_zb0, am_zb1, ↓Bool.cond_decide, cond_true, cond_false, ↓am_let_s, ↓bI_p, bIJ_s, ↓bV_p, bVJ_s, ↓bL_p, bLJ_s, ly_cf, Bool.and_self, Bool.and_true, rX hxR, h4R, rC hxR hc, e4, D1, e5', D2, am_i_s]
      have := hour (am_up (am_up I 3 17 (am_i (nxS sd))) 3 17 (am_i (nxS (nxS sd)))) (nxS (nxS sd) / 64 % 10) (nxS (nxS sd)) (qn + 1) (by omega) (nxS_b _) (drw _ _ _ (drw _ _ _ hq))
      refine Wp_m this ?_
      rintro _ _ ⟨I2, R2, rfl, rfl, hq2, hr2⟩
      refine ⟨I2, R2, ?_, rfl, hq2, fun k hk => ?_⟩
      · show some (Value.int (am_i ((qn + 1 + (chS wd sq m (nxS (nxS sd))).2.1 : Nat) : Int))) = some (Value.int (am_i ((qn + ((chS wd sq m (nxS (nxS sd))).2.1 + 1) : Nat) : Int)))
        congr 4
        omega
      · rw [hr2 k hk, am_up_o (by omega), am_up_o (by omega)]
    · have ec : chS wd sq (m + 1) sd = (wd :: (chS wd sq m (nxS sd)).1, (chS wd sq m (nxS sd)).2.1, (chS wd sq m (nxS sd)).2.2) := if_neg qs
      rw [ec]
      simp (disch := first | assumption | omega) only [am_i_add, am_i_sub, am_i_mul, am_ok_i, am_i_cl, n_lt, n_le, n_eq, n_lt0, n_le0, n_0lt, n_0le, n_eq0, ne_eq, ↓reduceIte, not_true_eq_false, not_false_eq_true, and_true, true_and, and_false, false_and, eq_T, eq_F, lt_T, lt_F, le_T, le_F, qn_T, qn_F, and_F, b01_T, b01_F, e_isIn, Int32.toInt_toInt64, am_i_toInt, am_l_toInt, Int.toNat_natCast, Int.reduceToNat, Int.reduceAdd, Int.reduceSub, Int.reduceMul, Int.reduceNeg, Nat.reduceAdd, Nat.reduceMul, Nat.add_zero, Nat.mul_zero, Nat.zero_add, am_zb0, am_zb1, ↓Bool.cond_decide, cond_true, cond_false, ↓am_let_s, ↓bI_p, bIJ_s, ↓bV_p, bVJ_s, ↓bL_p, bLJ_s, ly_cf, Bool.and_self, Bool.and_true, rX hxR, h4R, rC hxR hc, e4, D1, e5', am_i_s]
      refine Wp_m (hour (am_up I 3 17 (am_i (nxS sd))) wd (nxS sd) qn hX.2.2.2.1 (nxS_b _) (drw _ _ _ hq)) ?_
      rintro _ _ ⟨I2, R2, rfl, rfl, hq2, hr2⟩
      refine ⟨I2, R2, rfl, rfl, hq2, fun k hk => ?_⟩
      rw [hr2 k hk, am_up_o (by omega)]
end CHANCE
