/-! ===== hours ===== -/
def ruS (last : Nat) (wf : Nat → Nat) (fm : Nat → List tok) (nt : Nat → Nat) : List Nat → (Nat → bt) → Nat → bt
  | [], s => s
  | u :: ws, s => ruS last wf fm nt ws (hrS last wf fm nt u s)
def ruL (last nb : Nat) (wf : Nat → Nat) (fm : Nat → List tok) (nt : Nat → Nat) : List Nat → Nat → (Nat → bt) → List ent
  | [], _, _ => []
  | u :: ws, h, s => entF (entB last wf fm u h nt s) 0 nb ++ ruL last nb wf fm nt ws (h + 1) (hrS last wf fm nt u s)
def ruC (last nb : Nat) (wf : Nat → Nat) (fm : Nat → List tok) (nt : Nat → Nat) : List Nat → (Nat → bt) → Nat
  | [], _ => 0
  | u :: ws, s => cnt (laB last wf fm u nt s) 0 nb + ruC last nb wf fm nt ws (hrS last wf fm nt u s)
def rwX (nb : Nat) (nt : Nat → Nat) (last h : Nat) (s : Nat → bt) (I : tI) : Prop := h ≤ 999 ∧ I 31 66 = am_i h ∧ ∀ b, b < nb → bOK last (nt b) (s b) ∧ bX (I 31) (11 * b) (nt b) (s b)
section HOURS
variable {d : Nat} {J : tJ} {R0 R : tR} {c last wd nb : Nat} {nt wf : Nat → Nat} {fm : Nat → List tok}
theorem ruL_6 : ∀ (ws : List Nat) (h : Nat) (s : Nat → bt), (ruL last nb wf fm nt ws h s).length ≤ nb * ws.length
  | [], _, _ => Nat.zero_le _
  | u :: ws, h, s => by
    show (entF (entB last wf fm u h nt s) 0 nb ++ ruL last nb wf fm nt ws (h + 1) (hrS last wf fm nt u s)).length ≤ nb * (ws.length + 1)
    have := entF_l (last := last) (wf := wf) (fm := fm) (u := u) (h := h) (nt := nt) (s := s) nb 0
    have := ruL_6 ws (h + 1) (hrS last wf fm nt u s)
    rw [List.length_append, Nat.mul_succ]
    omega
theorem ruL_o : ∀ (ws : List Nat) (h : Nat) (s : Nat → bt), (ruL last nb wf fm nt ws h s).length ≤ cnt (ouB last nt s) 0 nb
  | [], _, _ => Nat.zero_le _
  | u :: ws, h, s => by
    show (entF (entB last wf fm u h nt s) 0 nb ++ ruL last nb wf fm nt ws (h + 1) (hrS last wf fm nt u s)).length ≤ _
    have := ent_ou (last := last) (wf := wf) (fm := fm) (u := u) (h := h) (nt := nt) (s := s) nb 0
    have := ruL_o ws (h + 1) (hrS last wf fm nt u s)
    rw [List.length_append]
    omega
theorem ruL_k (h6 : nb ≤ 6) : ∀ (ws : List Nat) (h : Nat) (s : Nat → bt), h + ws.length ≤ 999 → ∀ e ∈ ruL last nb wf fm nt ws h s, entOK e
  | [], _, _, _, e, he => by cases he
  | u :: ws, h, s, hh, e, he => by
    have hh' : h + (ws.length + 1) ≤ 999 := hh
    rcases List.mem_append.mp he with he | he
    · exact entF_ok (by omega) h6 nb 0 (by omega) e he
    · exact ruL_k h6 ws (h + 1) _ (by omega) e he
theorem ou_nb (s : Nat → bt) : cnt (ouB last nt s) 0 nb ≤ nb := cnt_le (fun i => by unfold ouB; split <;> omega) nb 0
/-- an hour of the class, from what is so ahead of it -/
def xRq (nb : Nat) (nt : Nat → Nat) (last h : Nat) (s : Nat → bt) (I0 : tI) (R0 : tR) (L : List ent) (I : tI) (R : tR) : Prop := rR R0 R ∧ (∀ q k, ¬ xHc q → I q k = I0 q k) ∧ rwX nb nt last h s I ∧ keptX (I 31) (I 32) L
theorem x_hour {I0 I : tI} {s : Nat → bt} {h u : Nat} {L : List ent} (hx0 : st_Rx R0) (h40 : R0 3 4 = c) (hc : c = 10 ∨ c = 20) (hu : u ≤ 9) (hh : h ≤ 998) (h6 : nb ≤ 6) (hX : cxX c last wd wf fm I0) (hI1 : I0 c 1 = am_i nb) (hnt : ∀ b, b < nb → nt b ≤ 6 ∧ I0 (c + 4) b = am_i (nt b)) (hL : L.length ≤ 9000) (hq : xRq nb nt last h s I0 R0 L I R) : Wp (fun r M => ∃ I' R', r = some (.int (am_i (cnt (laB last wf fm u nt s) 0 nb : Nat))) ∧ M = (I', J, R', 138) ∧ xRq nb nt last (h + 1) (hrS last wf fm nt u s) I0 R0 (L ++ entF (entB last wf fm u h nt s) 0 nb) I' R' ∧ ∀ k, (∀ j, L.length ≤ j → j < L.length + (entF (entB last wf fm u h nt s) 0 nb).length → k ≠ j % 256) → I' 32 k = I 32 k) (am_E (d + 8) 157 0 [(0, .ref 3), (1, .int (am_i u))] [] (I, J, R, 138)) := by
  obtain ⟨q1, q2, ⟨q3, q4, q5⟩, q6⟩ := hq
  have lp := x_hloop (d := d) (J := J) (R0 := R0) (u := u) (h := h) (s := s) (I0 := I0) hx0 h40 hc hu hh h6 hX hI1 hnt (fun b hb => (q5 b hb).1) nb 0 I R L 0 (by omega) q1 q2 q4 (by omega) q6 (fun b b1 b2 => (q5 b b2).2)
  refine Wp_e (sg_X11_passHour_0 _ _ _ _) (Wp_m lp ?_)
  rintro _ _ ⟨I', R', rfl, rfl, g1, g2, g3, g4, g5, g6, g7⟩
  exact ⟨I', R', by rw [Nat.zero_add], rfl, ⟨g1, g2, ⟨by omega, g3, fun b hb => ⟨paS_ok (q5 b hb).1, g5 b (by omega) hb⟩⟩, g4⟩, g7⟩
theorem x_hrs {I0 : tI} {z : Nat} (hx0 : st_Rx R0) (h40 : R0 3 4 = c) (hc : c = 10 ∨ c = 20) (h6 : nb ≤ 6) (hX : cxX c last wd wf fm I0) (hI1 : I0 c 1 = am_i nb) (hnt : ∀ b, b < nb → nt b ≤ 6 ∧ I0 (c + 4) b = am_i (nt b)) (hz : z ≤ 100) : ∀ (m i h lm : Nat) (s : Nat → bt) (L : List ent) (I : tI) (R : tR), i + m = z → h + m ≤ 999 → L.length + 6 * m ≤ 8000 → xRq nb nt last h s I0 R0 L I R → Wp (fun r M => ∃ I' R', r = some (.int (am_i (lm + ruC last nb wf fm nt (List.replicate m wd) s : Nat))) ∧ M = (I', J, R', 138) ∧ xRq nb nt last (h + m) (ruS last wf fm nt (List.replicate m wd) s) I0 R0 (L ++ ruL last nb wf fm nt (List.replicate m wd) h s) I' R' ∧ ∀ k, (∀ j, L.length ≤ j → j < L.length + (ruL last nb wf fm nt (List.replicate m wd) h s).length → k ≠ j % 256) → I' 32 k = I 32 k) (am_E (d + 9) 127 31 [(0, .ref 3), (1, .int (am_i z)), (2, .int (am_i lm)), (3, .int (am_i i))] [] (I, J, R, 138))
  | 0, i, h, lm, s, L, I, R, hi, hh, hL, hq => by
    rw [sg_X11_hours_31]
    simp (disch := first | assumption | omega) only [am_i_add, am_i_sub, am_i_mul, am_ok_i, am_i_cl, n_lt, n_le, n_eq, n_lt0, n_le0, n_0lt, n_0le, n_eq0, ne_eq, ↓reduceIte, not_true_eq_false, not_false_eq_true, and_true, true_and, and_false, false_and, eq_T, eq_F, lt_T, lt_F, le_T, le_F, qn_T, qn_F, and_F, b01_T, b01_F, e_isIn, Int32.toInt_toInt64, am_i_toInt, am_l_toInt, Int.toNat_natCast, Int.reduceToNat, Int.reduceAdd, Int.reduceSub, Int.reduceMul, Int.reduceNeg, Nat.reduceAdd, Nat.reduceMul, Nat.add_zero, Nat.mul_zero, Nat.zero_add, am_zb0, am_zb1, ↓Bool.cond_decide, cond_true, cond_false, ↓am_let_s, ↓bI_p, bIJ_s, ↓bV_p, bVJ_s, ↓bL_p, bLJ_s, ly_cf, Bool.and_self, Bool.and_true]
    refine Wp_r ⟨I, R, rfl, rfl, ?_, fun _ _ => rfl⟩
    show xRq nb nt last h s I0 R0 (L ++ []) I R
    rw [List.append_nil]
    exact hq
  | m + 1, i, h, lm, s, L, I, R, hi, hh, hL, hq => by
    have hxR := rR_x hq.1 hx0
    have h4R : R 3 4 = c := by rw [hq.1.1 _ _ (by omega)]; exact h40
    have e4 : I c 4 = am_i wd := by rw [hq.2.1 _ _ (by unfold xHc; omega)]; exact hX.2.2.1
    rw [sg_X11_hours_31]
    simp (disch := first | assumption | omega) only [am_i_add, am_i_sub, am_i_mul, am_ok_i, am_i_cl, n_lt, n_le, n_eq, n_lt0, n_le0, n_0lt, n_0le, n_eq0, ne_eq, ↓reduceIte, not_true_eq_false, not_false_eq_true, and_true, true_and, and_false, false_and, eq_T, eq_F, lt_T, lt_F, le_T, le_F, qn_T, qn_F, and_F, b01_T, b01_F, e_isIn, Int32.toInt_toInt64, am_i_toInt, am_l_toInt, Int.toNat_natCast, Int.reduceToNat, Int.reduceAdd, Int.reduceSub, Int.reduceMul, Int.reduceNeg, Nat.reduceAdd, Nat.reduceMul, Nat.add_zero, Nat.mul_zero, Nat.zero_add, am_zb0, am_zb1, ↓Bool.cond_decide, cond_true, cond_false, ↓am_let_s, ↓bI_p, bIJ_s, ↓bV_p, bVJ_s, ↓bL_p, bLJ_s, ly_cf, Bool.and_self, Bool.and_true, rX hxR, h4R, rC hxR hc, e4]
    refine Wp_I (x_hour (u := wd) hx0 h40 hc hX.2.2.2.1 (by omega) h6 hX hI1 hnt (by omega) hq) ?_
    rintro _ _ ⟨I1, R1, rfl, rfl, hq1, hr1⟩
    refine ⟨_, rfl, ?_⟩
    have hla : cnt (laB last wf fm wd nt s) 0 nb ≤ nb := cnt_le (fun i => by unfold laB; split <;> omega) nb 0
    have hle := entF_l (last := last) (wf := wf) (fm := fm) (u := wd) (h := h) (nt := nt) (s := s) nb 0
    simp (disch := first | assumption | omega) only [am_i_add, am_i_sub, am_i_mul, am_ok_i, am_i_cl, n_lt, n_le, n_eq, n_lt0, n_le0, n_0lt, n_0le, n_eq0, ne_eq, ↓reduceIte, not_true_eq_false, not_false_eq_true, and_true, true_and, and_false, false_and, eq_T, eq_F, lt_T, lt_F, le_T, le_F, qn_T, qn_F, and_F, b01_T, b01_F, e_isIn, Int32.toInt_toInt64, am_i_toInt, am_l_toInt, Int.toNat_natCast, Int.reduceToNat, Int.reduceAdd, Int.reduceSub, Int.reduceMul, Int.reduceNeg, Nat.reduceAdd, Nat.reduceMul, Nat.add_zero, Nat.mul_zero, Nat.zero_add, am_zb0, am_zb1, ↓Bool.cond_decide, cond_true, cond_false, ↓am_let_s, ↓bI_p, bIJ_s, ↓bV_p, bVJ_s, ↓bL_p, bLJ_s, ly_cf, Bool.and_self, Bool.and_true, am_i_s, am_i_n2]
    refine Wp_m (x_hrs hx0 h40 hc h6 hX hI1 hnt hz m (i + 1) (h + 1) (lm + cnt (laB last wf fm wd nt s) 0 nb) _ _ I1 R1 (by omega) (by omega) (by rw [List.length_append]; omega) hq1) ?_
    rintro _ _ ⟨I2, R2, rfl, rfl, hq2, hr2⟩
    refine ⟨I2, R2, ?_, rfl, ?_, fun k hk => ?_⟩
    · show some (Value.int (am_i ((lm + cnt (laB last wf fm wd nt s) 0 nb + ruC last nb wf fm nt (List.replicate m wd) (hrS last wf fm nt wd s) : Nat) : Int))) = some (Value.int (am_i ((lm + (cnt (laB last wf fm wd nt s) 0 nb + ruC last nb wf fm nt (List.replicate m wd) (hrS last wf fm nt wd s)) : Nat) : Int)))
      rw [Nat.add_assoc]
    · rw [show h + (m + 1) = h + 1 + m by omega]
      show xRq nb nt last (h + 1 + m) (ruS last wf fm nt (List.replicate m wd) (hrS last wf fm nt wd s)) I0 R0 (L ++ (entF (entB last wf fm wd h nt s) 0 nb ++ ruL last nb wf fm nt (List.replicate m wd) (h + 1) (hrS last wf fm nt wd s))) I2 R2
      rw [← List.append_assoc]
      exact hq2
    · have hlen : (ruL last nb wf fm nt (List.replicate (m + 1) wd) h s).length = (entF (entB last wf fm wd h nt s) 0 nb).length + (ruL last nb wf fm nt (List.replicate m wd) (h + 1) (hrS last wf fm nt wd s)).length := List.length_append
      rw [hr2 k (fun j j1 j2 => hk j (by rw [List.length_append] at j1; omega) (by rw [List.length_append] at j2; omega)), hr1 k (fun j j1 j2 => hk j j1 (by omega))]
def mRq (nb : Nat) (nt : Nat → Nat) (last h : Nat) (s : Nat → bt) (I0 : tI) (J0 : tJ) (L : List ent) (I : tI) (J : tJ) : Prop := frJ J0 J ∧ (∀ q k, ¬ mHc q k → I q k = I0 q k) ∧ rwM nb nt last h s I ∧ keptG (I 103) L
theorem m_rh {I0 I : tI} {J0 : tJ} {s : Nat → bt} {h u : Nat} {L : List ent} {lm : Int} (hm : st_Rm R) (hu : u ≤ 9) (hX : cxM last wd nb nt wf fm I0) (hh : h ≤ 998) (h58 : I0 64 58 = am_i 0) (h59 : I 64 59 = am_i lm) (hq : mRq nb nt last h s I0 J0 L I J) : Wp (fun r M => ∃ I' J', r = none ∧ M = (I', J', R, 138) ∧ mRq nb nt last (h + 1) (hrS last wf fm nt u s) I0 J0 (L ++ entF (entB last wf fm u h nt s) 0 nb) I' J' ∧ I' 64 59 = am_i (lm + (cnt (laB last wf fm u nt s) 0 nb : Nat))) (am_E (d + 7) 210 0 [(0, .ref 64), (1, .int (am_i u))] [] (I, J, R, 138)) := by
  obtain ⟨q1, q2, q3, q4⟩ := hq
  refine Wp_m (m_hour (th := false) (L := L) hm hu (cxM_c (fun q k a1 a2 => q2 q k (by unfold mHc; omega)) hX) hh (by rw [q2 _ _ (by unfold mHc; omega)]; exact h58) (fun _ => q4) q3 h59) ?_
  rintro _ _ ⟨I', J', rfl, rfl, g1, g2, g3, g4, g5, g6, g7, g8⟩
  exact ⟨I', J', rfl, rfl, ⟨frJ_t q1 g1, fun q k e => by rw [g2 q k e, q2 q k e], g3, g8 rfl⟩, g6⟩
theorem m_hrs {I0 : tI} {J0 : tJ} {z : Nat} (hm : st_Rm R) (hX : cxM last wd nb nt wf fm I0) (h58 : I0 64 58 = am_i 0) (hz : z ≤ 100) : ∀ (m i h : Nat) (lm : Int) (s : Nat → bt) (L : List ent) (I : tI) (J : tJ), i + m = z → h + m ≤ 999 → I 64 59 = am_i lm → mRq nb nt last h s I0 J0 L I J → Wp (fun r M => ∃ I' J', r = none ∧ M = (I', J', R, 138) ∧ mRq nb nt last (h + m) (ruS last wf fm nt (List.replicate m wd) s) I0 J0 (L ++ ruL last nb wf fm nt (List.replicate m wd) h s) I' J' ∧ I' 64 59 = am_i (lm + (ruC last nb wf fm nt (List.replicate m wd) s : Nat))) (am_E (d + 8) 211 2 [(0, .ref 64), (1, .int (am_i z)), (2, .int (am_i i))] [] (I, J, R, 138))
  | 0, i, h, lm, s, L, I, J, hi, hh, h59, hq => by
    rw [sg_X12_hoursGo_2]
    simp (disch := first | assumption | omega) only [rM hm, ly_csm, ly_cam, ly_cf, ly_kd, ly_ln, ↓Bool.cond_decide, cond_true, cond_false, ↓bI_p, ↓bV_p, ↓bL_p, bIJ_s, bVJ_s, bLJ_s, ↓am_let_s, Nat.blt, Nat.ble, Bool.and_true, Bool.true_and, Bool.and_self, Int.cast_ofNat_Int, am_i_add, am_i_sub, am_i_mul, am_ok_i, am_i_cl, n_lt, n_le, n_eq, n_lt0, n_le0, n_0lt, n_0le, n_eq0, ne_eq, ↓reduceIte, not_true_eq_false, not_false_eq_true, and_true, true_and, and_false, false_and, eq_T, eq_F, lt_T, lt_F, le_T, le_F, qn_T, qn_F, and_F, b01_T, b01_F, e_isIn, Int32.toInt_toInt64, am_i_toInt, am_l_toInt, Int.toNat_natCast, Int.reduceToNat, Int.reduceAdd, Int.reduceSub, Int.reduceMul, Int.reduceNeg, Nat.reduceAdd, Nat.reduceMul, Nat.add_zero, Nat.mul_zero, Nat.zero_add, am_zb0, am_zb1]
    refine Wp_r ⟨I, J, rfl, rfl, ?_, ?_⟩
    · show mRq nb nt last h s I0 J0 (L ++ []) I J
      rw [List.append_nil]
      exact hq
    · rw [h59]
      congr 1
      show lm = lm + ((0 : Nat) : Int)
      omega
  | m + 1, i, h, lm, s, L, I, J, hi, hh, h59, hq => by
    have e4 : I 93 4 = am_i wd := by rw [hq.2.1 _ _ (by unfold mHc; omega)]; exact hX.2.2.1
    rw [sg_X12_hoursGo_2]
    simp (disch := first | assumption | omega) only [rM hm, ly_csm, ly_cam, ly_cf, ly_kd, ly_ln, ↓Bool.cond_decide, cond_true, cond_false, ↓bI_p, ↓bV_p, ↓bL_p, bIJ_s, bVJ_s, bLJ_s, ↓am_let_s, Nat.blt, Nat.ble, Bool.and_true, Bool.true_and, Bool.and_self, Int.cast_ofNat_Int, am_i_add, am_i_sub, am_i_mul, am_ok_i, am_i_cl, n_lt, n_le, n_eq, n_lt0, n_le0, n_0lt, n_0le, n_eq0, ne_eq, ↓reduceIte, not_true_eq_false, not_false_eq_true, and_true, true_and, and_false, false_and, eq_T, eq_F, lt_T, lt_F, le_T, le_F, qn_T, qn_F, and_F, b01_T, b01_F, e_isIn, Int32.toInt_toInt64, am_i_toInt, am_l_toInt, Int.toNat_natCast, Int.reduceToNat, Int.reduceAdd, Int.reduceSub, Int.reduceMul, Int.reduceNeg, Nat.reduceAdd, Nat.reduceMul, Nat.add_zero, Nat.mul_zero, Nat.zero_add, am_zb0, am_zb1, e4]
    refine Wp_V (m_rh hm hX.2.2.2.1 hX (by omega) h58 h59 hq) ?_
    rintro _ _ ⟨I1, J1, rfl, rfl, hq1, h591⟩
    refine ⟨rfl, ?_⟩
    simp (disch := first | assumption | omega) only [am_i_add, am_i_sub, am_i_mul, am_ok_i, am_i_cl, n_lt, n_le, n_eq, n_lt0, n_le0, n_0lt, n_0le, n_eq0, ne_eq, ↓reduceIte, not_true_eq_false, not_false_eq_true, and_true, true_and, and_false, false_and, eq_T, eq_F, lt_T, lt_F, le_T, le_F, qn_T, qn_F, and_F, b01_T, b01_F, e_isIn, Int32.toInt_toInt64, am_i_toInt, am_l_toInt, Int.toNat_natCast, Int.reduceToNat, Int.reduceAdd, Int.reduceSub, Int.reduceMul, Int.reduceNeg, Nat.reduceAdd, Nat.reduceMul, Nat.add_zero, Nat.mul_zero, Nat.zero_add, am_zb0, am_zb1, ↓am_let_s, am_i_s]
    refine Wp_m (m_hrs hm hX h58 hz m (i + 1) (h + 1) _ _ _ I1 J1 (by omega) (by omega) h591 hq1) ?_
    rintro _ _ ⟨I2, J2, rfl, rfl, hq2, h592⟩
    refine ⟨I2, J2, rfl, rfl, ?_, ?_⟩
    · rw [show h + (m + 1) = h + 1 + m by omega]
      show mRq nb nt last (h + 1 + m) (ruS last wf fm nt (List.replicate m wd) (hrS last wf fm nt wd s)) I0 J0 (L ++ (entF (entB last wf fm wd h nt s) 0 nb ++ ruL last nb wf fm nt (List.replicate m wd) (h + 1) (hrS last wf fm nt wd s))) I2 J2
      rw [← List.append_assoc]
      exact hq2
    · rw [h592]
      congr 1
      show lm + (cnt (laB last wf fm wd nt s) 0 nb : Nat) + (ruC last nb wf fm nt (List.replicate m wd) (hrS last wf fm nt wd s) : Nat) = lm + ((cnt (laB last wf fm wd nt s) 0 nb + ruC last nb wf fm nt (List.replicate m wd) (hrS last wf fm nt wd s) : Nat) : Int)
      omega
end HOURS
/-- both have kept what was, and have let hours pass -/
theorem act_h {L0 : Nat} {xs : Nat → Int32} {I Ik I1 I2 I3 : tI} {J J3 : tJ} {R R3 : tR} {c last nb nr nw wd sq K h h' : Nat} {nt wf : Nat → Nat} {fm : Nat → List tok} {s s' : Nat → bt} {n x : Nat} {Kf : Nat → Nat} {L es : List ent} (hV : vV restW L0 xs I J R) (h4 : R 3 4 = c) (hc : c = 10 ∨ c = 20) (hB : restB I c last nb nr nw wd sq nt wf) (hN : (∀ b, b < nb → nameR (I (c + 1) b) (J 95 (16 + b))) ∧ ∀ r, r < nr → nameR (I (c + 2) r) (J 95 (24 + r))) (hF : last ≠ 0 → ∀ f, f < 3 → frX I c f (fm f) ∧ frM I f (fm f) ∧ frT false (f == 2) (fm f)) (hX : ∀ q, fixd q = true → I q = am_K0 q)
    (h6 : nb ≤ 6) (hnt : ∀ b, b < nb → nt b ≤ 6) (hr : rowE (I 31) (I 103) last nb nt h s) (hk : keptR (I 31) (I 32) (I 103) K) (hK : K ≤ 6 * h) (hLK : L.length = K)
    (hn : n ≤ 20) (h20 : x < 20) (hK0 : Kf 0 = K) (hst : ∀ j, j < n → Kf (j + 1) ≤ Kf j ∧ Kf j ≤ Kf (j + 1) + 6 ∧ stR (fun i => I 34 (68 * ((x + 19 - j) % 20) + i)) (I 32) (fun i => I 110 (188 * ((x + 20 - j) % 20) + i)) last nb nt (Kf (j + 1)))
    (a1 : Ik 33 1 = am_i ((x + 1) % 20 : Nat)) (a2 : Ik 33 2 = am_i (min 20 (n + 1) : Nat)) (a3 : ∀ i, i < 68 → Ik 34 (68 * x + i) = I 31 i) (a4 : ∀ k, ¬ (68 * x ≤ k ∧ k < 68 * x + 68) → Ik 34 k = I 34 k) (a5 : ∀ q k, q ≠ 34 → q ≠ 33 → Ik q k = I q k)
    (b1 : ∀ q k, ¬ xHc q → I1 q k = Ik q k) (b2 : rwX nb nt last h' s' I1) (b3 : keptX (I1 31) (I1 32) (L ++ es)) (b4 : ∀ k, (∀ j, L.length ≤ j → j < L.length + es.length → k ≠ j % 256) → I1 32 k = Ik 32 k)
    (c1 : I2 64 69 = am_i ((x + 1) % 20 : Nat)) (c2 : I2 64 68 = am_i (min 20 (n + 1) : Nat)) (c3 : ∀ k, k < 188 → I2 110 (188 * ((x + 1) % 20) + k) = I1 103 k) (c4 : ∀ k, ¬ (188 * ((x + 1) % 20) ≤ k ∧ k < 188 * ((x + 1) % 20) + 188) → I2 110 k = I1 110 k) (c5 : ∀ q k, q ≠ 110 → ¬ (q = 64 ∧ (k = 68 ∨ k = 69)) → I2 q k = I1 q k)
    (d1 : ∀ q k, ¬ mHc q k → I3 q k = I2 q k) (d2 : rwM nb nt last h' s' I3) (d3 : keptG (I3 103) (L ++ es)) (e1 : es.length ≤ 6) (e2 : K + es.length ≤ 6 * h') (e3 : ∀ e ∈ L ++ es, entOK e) (hJ : ∀ q k, q ≠ 136 → q ≠ 51 → J3 q k = J q k) (hR : rR R R3) : vV restW L0 xs I3 J3 R3 := by
  have z : ∀ q k, ¬ mHc q k → q ≠ 110 → ¬ (q = 64 ∧ (k = 68 ∨ k = 69)) → ¬ xHc q → q ≠ 34 → q ≠ 33 → I3 q k = I q k := fun q k p1 p2 p3 p4 p5 p6 => by
    rw [d1 q k p1, c5 q k p2 p3, b1 q k p4, a5 q k p5 p6]
  have hI : ∀ q k, ¬ sC q k → ¬ kC q k → I3 q k = I q k := fun q k p1 p2 => by
    unfold sC at p1
    unfold kC at p2
    exact z q k (by unfold mHc; omega) (by omega) (by omega) (by unfold xHc; omega) (by omega) (by omega)
  have e31 : I3 31 = I1 31 := funext fun k => by rw [d1 _ _ (by unfold mHc; omega), c5 _ _ (by omega) (by omega)]
  have e32 : I3 32 = I1 32 := funext fun k => by rw [d1 _ _ (by unfold mHc; omega), c5 _ _ (by omega) (by omega)]
  have r32 : ∀ k, (∀ j, L.length ≤ j → j < L.length + es.length → k ≠ j % 256) → I3 32 k = I 32 k := fun k hk => by rw [e32, b4 k hk, a5 _ _ (by omega) (by omega)]
  have hlen : (L ++ es).length = K + es.length := by rw [List.length_append, hLK]
  refine vV_k hV hI hJ hR (restW_K (K := K + es.length) h4 hc hB hN hF hX hI hJ hR ?_ ?_)
  · refine ⟨h', s', ⟨b2.1, by rw [e31]; exact b2.2.1, d2.2.1, fun b hb => ⟨(b2.2.2 b hb).1, by rw [e31]; exact (b2.2.2 b hb).2, (d2.2.2 b hb).2⟩⟩, ?_, e2⟩
    rw [← hlen, e31, e32]
    exact kept_R e3 b3 d3
  · refine acts_k (K := K) (n := n) (x := x) (Kf := Kf) (I := I) h6 hnt hn h20 hK0 hst ⟨h, s, hr, hk, hK⟩ ?_ ?_ ?_ ?_ (fun i hi => ?_) (fun k hk => ?_) (fun k hk => ?_) (fun k hk => ?_) (by omega) (by omega) (fun f g k k1 k2 hs => ?_)
    · rw [d1 _ _ (by unfold mHc; omega), c5 _ _ (by omega) (by omega), b1 _ _ (by unfold xHc; omega)]; exact a1
    · rw [d1 _ _ (by unfold mHc; omega)]; exact c1
    · rw [d1 _ _ (by unfold mHc; omega), c5 _ _ (by omega) (by omega), b1 _ _ (by unfold xHc; omega)]; exact a2
    · rw [d1 _ _ (by unfold mHc; omega)]; exact c2
    · rw [d1 _ _ (by unfold mHc; omega), c5 _ _ (by omega) (by omega), b1 _ _ (by unfold xHc; omega)]; exact a3 i hi
    · rw [d1 _ _ (by unfold mHc; omega), c5 _ _ (by omega) (by omega), b1 _ _ (by unfold xHc; omega)]; exact a4 k hk
    · rw [d1 _ _ (by unfold mHc; omega), c3 k hk, b1 _ _ (by unfold xHc; omega)]; exact a5 _ _ (by omega) (by omega)
    · rw [d1 _ _ (by unfold mHc; omega), c4 k hk, b1 _ _ (by unfold xHc; omega)]; exact a5 _ _ (by omega) (by omega)
    · obtain ⟨ho, so, ro, ⟨ko1, ko2, ko3⟩, hko⟩ := hs
      refine ⟨ho, so, ro, ⟨ko1, ko2, fun i hi => ?_⟩, hko⟩
      obtain ⟨p, b, w, p1, p2, p3, p4, p5, p6, p7⟩ := ko3 i hi
      exact ⟨p, b, w, p1, p2, p3, by rw [r32 _ (fun j j1 j2 => by omega)]; exact p4, p5, p6, p7⟩
