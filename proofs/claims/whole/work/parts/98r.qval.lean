/-! ===== what a question's words tell; the class's value for a boat ===== -/
def enQ (n b h u : Nat) (s : bt) (w : Nat) : Int := if w = 14 then (if n = 0 then -1 else (s.sc s.pl : Int)) else if w = 3 then s.ti else if w = 4 then s.ro else if w = 15 then s.mi else if w = 12 then u else if w = 17 then b else if w = 18 then s.su else h
def e1Q (n u : Nat) (wf : Nat → Nat) (fm : Nat → List tok) (s : bt) (w : Nat) (v : Int) : Int := if w = 9 then (if 0 ≤ v ∧ v < 8 then rcS wf fm s v.toNat u else 0) else (if 0 ≤ v ∧ v < n then (s.sc v.toNat : Int) else -1)
theorem enQ_b {last n b h u : Nat} {s : bt} (hO : bOK last n s) (hl : last ≤ 60) (hb : b < 6) (hh : h ≤ 999) (hu : u ≤ 9) (w : Nat) : -1000000 ≤ enQ n b h u s w ∧ enQ n b h u s w ≤ 1000000 := by
  obtain ⟨o1, o2, o3, o4, o5, o6, o7⟩ := hO
  unfold enQ
  by_cases q : n = 0
  · rw [if_pos q]
    repeat' split
    all_goals omega
  · rw [if_neg q]
    have := o7 s.pl (by omega)
    repeat' split
    all_goals omega
theorem e1Q_b {last n u : Nat} {wf : Nat → Nat} {fm : Nat → List tok} {s : bt} (hO : bOK last n s) (w : Nat) (v : Int) : -1000000 ≤ e1Q n u wf fm s w v ∧ e1Q n u wf fm s w v ≤ 1000000 := by
  unfold e1Q
  have r := rcS_b (wf := wf) (fm := fm) (s := s) (v := v.toNat) (u := u)
  have o7 := hO.2.2.2.2.2.2
  split
  · split <;> omega
  · split
    · have := o7 v.toNat (by omega)
      omega
    · omega
/-- a question's formula as the class has it -/
def qfX (l : List tok) (I : tI) : Prop := l.length ≤ 1600 ∧ I 8 2 = am_i l.length ∧ I 8 3 = am_i (acS 0 l) ∧ ∀ k t, l[k]? = some t → I 9 k = am_i (encX t)
section XVAL
variable {d : Nat} {J : tJ} {R : tR} {c last wd n b h : Nat} {wf : Nat → Nat} {fm : Nat → List tok} {s : bt} {l : List tok} {bb : Bool}
theorem x_v36 (hx : st_Rx R) (h4 : R 3 4 = c) (hc : c = 10 ∨ c = 20) (hR : R 35 1 = c) (hO : bOK last n s) (hu : wd ≤ 9) {I0 : tI} (hX : cxX c last wd wf fm I0) (hH : hullR 35 I0 n s) : ∀ (m i : Nat) (I : tI), i + m = 8 → (∀ q k, ¬ (vS 35 q k = true ∨ q = 38) → I q k = I0 q k) → (∀ j, j < i → I 38 j = am_i (rcS wf fm s j wd)) → ∃ I', am_E (d + 6) 162 36 [(0, .ref 3), (1, .int (am_i b)), (2, .ref 36), (3, .int (am_i i))] [] (I, J, R, 138) = am_E (d + 6) 162 69 [(0, .ref 3), (1, .int (am_i b)), (2, .ref 36)] [] (I', J, R, 138) ∧ (∀ q k, ¬ (vS 35 q k = true ∨ q = 38) → I' q k = I0 q k) ∧ ∀ j, j < 8 → I' 38 j = am_i (rcS wf fm s j wd)
  | 0, i, I, hi, hf, hj => by
    obtain rfl : i = 8 := by omega
    refine ⟨I, ?_, hf, hj⟩
    rw [sg_X11_valueFor_36]
    rfl
  | m + 1, i, I, hi, hf, hj => by
    have hX1 : cxX c last wd wf fm I := cxX_c hc (fun q k a1 a2 => hf q k (fun e => by
      rcases e with e | e
      · have := vS_f (o := 35) (q := q) (k := k) (by omega) (by omega) (by omega)
        rw [this] at e; cases e
      · omega)) hX
    have hv35 : ∀ k, ¬ (vS 35 35 k = true ∨ 35 = 38) := fun k e => by
      rcases e with e | e
      · have := vS_f (o := 35) (q := 35) (k := k) (by omega) (by omega) (by omega)
        rw [this] at e; cases e
      · omega
    obtain ⟨r, M, e, I1, rfl, rfl, hf1⟩ := x_reach (d := d + 1) (J := J) (s := s) (v := i) (u := wd) hx (Or.inl rfl) hc hR hX1 hO.1 hO.2.1 hO.2.2.1 (by rw [hf _ _ (hv35 _)]; exact hH.1) (by rw [hf _ _ (hv35 _)]; exact hH.2.1) (by rw [hf _ _ (hv35 _)]; exact hH.2.2.1) (by omega) hu
    have e' : am_E (d + 5) 43 0 [(0, .ref 35), (1, .int (am_i i)), (2, .int (am_i wd))] [] (I, J, R, 138) = some (some (.int (am_i (rcS wf fm s i wd))), (I1, J, R, 138)) := e
    have i4 : I c 4 = am_i wd := hX1.2.2.1
    have hv38 : ∀ k, vS 35 38 k = false := fun k => vS_f (by omega) (by omega) (by omega)
    obtain ⟨I2, g1, g2, g3⟩ := x_v36 hx h4 hc hR hO hu hX hH m (i + 1) (am_up I1 38 i (am_i (rcS wf fm s i wd))) (by omega) (fun q k ne => by
      have ne1 : vS 35 q k = false := by
        cases hq : vS 35 q k
        · rfl
        · exact absurd (Or.inl hq) ne
      rw [am_up_o (fun e => ne (Or.inr e.1)), hf1 q k ne1, hf q k ne]) (fun j hj' => by
      by_cases q : j = i
      · rw [q, am_up_e]
      · rw [am_up_o (by omega), hf1 _ _ (hv38 j)]
        exact hj j (by omega))
    refine ⟨I2, ?_, g2, g3⟩
    rw [← g1]
    conv => lhs; rw [sg_X11_valueFor_36]
    simp (disch := first | assumption | omega) only [rX hx, ly_csx, ly_cax, ly_cf, ly_kd, ly_ln, ↓Bool.cond_decide, cond_true, cond_false, ↓bI_p, ↓bV_p, ↓bL_p, bIJ_s, bVJ_s, bLJ_s, ↓am_let_s, Nat.blt, Nat.ble, Bool.and_true, Bool.true_and, Bool.and_self, Int.cast_ofNat_Int, am_i_add, am_i_sub, am_i_mul, am_ok_i, am_i_cl, n_lt, n_le, n_eq, n_lt0, n_le0, n_0lt, n_0le, n_eq0, ne_eq, ↓reduceIte, not_true_eq_false, not_false_eq_true, and_true, true_and, and_false, false_and, eq_T, eq_F, lt_T, lt_F, le_T, le_F, qn_T, qn_F, and_F, b01_T, b01_F, e_isIn, Int32.toInt_toInt64, am_i_toInt, am_l_toInt, Int.toNat_natCast, Int.reduceToNat, Int.reduceAdd, Int.reduceSub, Int.reduceMul, Int.reduceNeg, Nat.reduceAdd, Nat.reduceMul, Nat.add_zero, Nat.mul_zero, Nat.zero_add, am_zb0, am_zb1, h4, rC hx hc, i4, e', am_i_s]
theorem cy_39 : am_cy 138 41 (am_i 0) 39 (am_i 0) (am_i 6) = true := by decide
theorem acS_1 {l : List tok} (h : (5, 9) ∈ l) : acS 0 l = 1 := by
  unfold acS
  rw [if_pos (Or.inr h)]
/-- the state in which the formula is worked out -/
def qvI (I : tI) (nx : Int32) (b su h n u : Nat) : tI := am_cp (am_up (am_up (am_up (am_up (shI I 35 nx (am_i u)) 37 17 (am_i b)) 37 18 (am_i su)) 37 19 (am_i h)) 36 3 (am_i n)) 41 0 39 0 6
theorem qvI_o {I : tI} {nx : Int32} {b su h n u q k : Nat} (h1 : q ≠ 37) (h2 : ¬ (q = 36 ∧ k = 3)) (h3 : q ≠ 39) : qvI I nx b su h n u q k = I q k := by
  unfold qvI
  rw [am_cp_ap, if_neg h3, am_up_o (by omega), am_up_o (by omega), am_up_o (by omega), am_up_o (by omega), shI_o (by omega)]
theorem qvI_39 {I : tI} {nx : Int32} {b su h n u k : Nat} (hk : k < 6) : qvI I nx b su h n u 39 k = I 41 k := by
  unfold qvI
  rw [am_cp_ap, if_pos rfl]
  unfold va_cpy
  rw [if_pos (by omega), Nat.sub_zero, Nat.zero_add, am_up_o (by omega), am_up_o (by omega), am_up_o (by omega), am_up_o (by omega), shI_o (by omega)]
theorem qvI_e {I : tI} {b h n u : Nat} {s : bt} (hH : hullR 35 I n s) {w : Nat} (hw : wdOK true false w) : w < 26 ∧ qvI I (am_i (if n = 0 then -1 else (s.sc s.pl : Int))) b s.su h n u 37 w = am_i (enQ n b h u s w) := by
  obtain ⟨h1, h2, h3, h4, h5, h6, h7⟩ := hH
  unfold qvI
  rw [am_cp_ap, if_neg (by omega), am_up_o (by omega)]
  unfold shI
  rcases hw with q | q | q | q | q | ⟨z, q⟩ | ⟨-, q⟩
  · obtain rfl : w = 14 := q
    refine ⟨by omega, ?_⟩
    rw [am_up_o (by omega), am_up_o (by omega), am_up_o (by omega), am_up_o (by omega), am_up_o (by omega), am_up_o (by omega), am_up_o (by omega), am_up_e]
    rfl
  · obtain rfl : w = 3 := q
    refine ⟨by omega, ?_⟩
    rw [am_up_o (by omega), am_up_o (by omega), am_up_o (by omega), am_up_o (by omega), am_up_o (by omega), am_up_o (by omega), am_up_e, h2]
    rfl
  · obtain rfl : w = 4 := q
    refine ⟨by omega, ?_⟩
    rw [am_up_o (by omega), am_up_o (by omega), am_up_o (by omega), am_up_o (by omega), am_up_o (by omega), am_up_e, h3]
    rfl
  · obtain rfl : w = 15 := q
    refine ⟨by omega, ?_⟩
    rw [am_up_o (by omega), am_up_o (by omega), am_up_o (by omega), am_up_o (by omega), am_up_e, h1]
    rfl
  · obtain rfl : w = 12 := q
    refine ⟨by omega, ?_⟩
    rw [am_up_o (by omega), am_up_o (by omega), am_up_o (by omega), am_up_e]
    rfl
  · cases z
  · have q' : w = 17 ∨ w = 18 ∨ w = 19 := q
    rcases q' with rfl | rfl | rfl
    · refine ⟨by omega, ?_⟩
      rw [am_up_o (by omega), am_up_o (by omega), am_up_e]
      rfl
    · refine ⟨by omega, ?_⟩
      rw [am_up_o (by omega), am_up_e]
      rfl
    · refine ⟨by omega, ?_⟩
      rw [am_up_e]
      rfl
theorem x_v69 (hx : st_Rx R) (h4 : R 3 4 = c) (hc : c = 10 ∨ c = 20) (hO : bOK last n s) (hl : last ≤ 60) (hn : n ≤ 6) (hb : b < 6) (hu : wd ≤ 9) {I : tI} (hH : hullR 35 I n s) (i4 : I c 4 = am_i wd) (h66 : I 31 66 = am_i h) (hh : h ≤ 999) (hq : qfX l I) (hac : acS 0 l = 1 → ∀ j, j < 8 → I 38 j = am_i (rcS wf fm s j wd)) (hOK : tokOK [] l = some [bb]) (hW : ∀ t ∈ l, tokW true false t) : ∃ I', am_E (d + 6) 162 69 [(0, .ref 3), (1, .int (am_i b)), (2, .ref 36)] [] (I, J, R, 138) = some (some (.int (am_i (vl (enQ n b h wd s) (e1Q n wd wf fm s) l))), (I', J, R, 138)) ∧ vOK bb (vl (enQ n b h wd s) (e1Q n wd wf fm s) l) ∧ fr (hS 35) I I' := by
  obtain ⟨q1, q2, q3, q4⟩ := hq
  have nx := fun d => x_next (d := d) (J := J) hx (Or.inl rfl) hn hO.2.2.2.2.1 hH
  have sh := fun d => x_show (d := d) (J := J) (I := I) (v := am_i (if n = 0 then -1 else (s.sc s.pl : Int))) (u := am_i wd) hx (Or.inl rfl)
  obtain ⟨I5, hI5⟩ : ∃ I5, I5 = qvI I (am_i (if n = 0 then -1 else (s.sc s.pl : Int))) b s.su h n wd := ⟨_, rfl⟩
  have o5 : ∀ q k, q ≠ 37 → ¬ (q = 36 ∧ k = 3) → q ≠ 39 → I5 q k = I q k := fun q k a1 a2 a3 => by rw [hI5]; exact qvI_o a1 a2 a3
  have s5 : ∀ k, k < 6 → I5 39 k = I 41 k := fun k hk => by rw [hI5]; exact qvI_39 hk
  have p5 : I5 36 3 = am_i n := by
    rw [hI5]
    unfold qvI
    rw [am_cp_ap, if_neg (by omega), am_up_e]
  have en5 : ∀ w, wdOK true false w → w < 26 ∧ I5 37 w = am_i (enQ n b h wd s w) := fun w hw => by rw [hI5]; exact qvI_e hH hw
  have hm36 : ∀ q k, mcS 36 q k = false → ¬ (q = 36 ∧ k = 5) ∧ q ≠ 40 := fun q k e => mcS_f e
  have f3 : ∀ I', fr (mcS 36) I5 I' → I' 36 3 = am_i n := fun I' hf => by rw [hf 36 3 rfl]; exact p5
  obtain ⟨v, g1, g2, I', g3, g4⟩ := x_loopQ (d := d + 2) (J := J) (R := R) (m := 36) (cc := 9) (e := l.length) (en := enQ n b h wd s) (e1 := e1Q n wd wf fm s) (q := true) (sw := false) (b := bb) (I0 := I5) (aw := fun w => w = 9 → acS 0 l = 1) hx (Or.inl rfl) (Or.inl rfl) q1 (fun w hw => ⟨(enQ_b hO hl hb hh hu w).1, (enQ_b hO hl hb hh hu w).2, en5 w hw⟩) (fun w v ha hw v1 v2 => ⟨(e1Q_b hO w v).1, (e1Q_b hO w v).2, fun d I' hf => by
      rw [sg_X6_workOne_0]
      rcases hw with rfl | rfl
      · have hr := hac (ha rfl)
        unfold e1Q
        rw [if_pos rfl]
        by_cases q : 0 ≤ v ∧ v < 8
        · obtain ⟨m, rfl⟩ : ∃ m : Nat, v = m := ⟨v.toNat, by omega⟩
          have e38 : I' 38 m = am_i (rcS wf fm s m wd) := by
            rw [hf 38 m rfl, o5 _ _ (by omega) (by omega) (by omega)]
            exact hr m (by omega)
          rw [if_pos q, Int.toNat_natCast]
          simp (disch := first | assumption | omega) only [rX hx, ly_csx, ly_cax, ly_cf, ly_kd, ly_ln, ↓Bool.cond_decide, cond_true, cond_false, ↓bI_p, ↓bV_p, ↓bL_p, bIJ_s, bVJ_s, bLJ_s, ↓am_let_s, Nat.blt, Nat.ble, Bool.and_true, Bool.true_and, Bool.and_self, Int.cast_ofNat_Int, am_i_add, am_i_sub, am_i_mul, am_ok_i, am_i_cl, n_lt, n_le, n_eq, n_lt0, n_le0, n_0lt, n_0le, n_eq0, ne_eq, ↓reduceIte, not_true_eq_false, not_false_eq_true, and_true, true_and, and_false, false_and, eq_T, eq_F, lt_T, lt_F, le_T, le_F, qn_T, qn_F, and_F, b01_T, b01_F, e_isIn, Int32.toInt_toInt64, am_i_toInt, am_l_toInt, Int.toNat_natCast, Int.reduceToNat, Int.reduceAdd, Int.reduceSub, Int.reduceMul, Int.reduceNeg, Nat.reduceAdd, Nat.reduceMul, Nat.add_zero, Nat.mul_zero, Nat.zero_add, am_zb0, am_zb1, e38]
        · rw [if_neg q]
          by_cases q0 : v < 0
          · simp (disch := first | assumption | omega) only [rX hx, ly_csx, ly_cax, ly_cf, ly_kd, ly_ln, ↓Bool.cond_decide, cond_true, cond_false, ↓bI_p, ↓bV_p, ↓bL_p, bIJ_s, bVJ_s, bLJ_s, ↓am_let_s, Nat.blt, Nat.ble, Bool.and_true, Bool.true_and, Bool.and_self, Int.cast_ofNat_Int, am_i_add, am_i_sub, am_i_mul, am_ok_i, am_i_cl, n_lt, n_le, n_eq, n_lt0, n_le0, n_0lt, n_0le, n_eq0, ne_eq, ↓reduceIte, not_true_eq_false, not_false_eq_true, and_true, true_and, and_false, false_and, eq_T, eq_F, lt_T, lt_F, le_T, le_F, qn_T, qn_F, and_F, b01_T, b01_F, e_isIn, Int32.toInt_toInt64, am_i_toInt, am_l_toInt, Int.toNat_natCast, Int.reduceToNat, Int.reduceAdd, Int.reduceSub, Int.reduceMul, Int.reduceNeg, Nat.reduceAdd, Nat.reduceMul, Nat.add_zero, Nat.mul_zero, Nat.zero_add, am_zb0, am_zb1, sg_X6_workOne_59]
          · simp (disch := first | assumption | omega) only [rX hx, ly_csx, ly_cax, ly_cf, ly_kd, ly_ln, ↓Bool.cond_decide, cond_true, cond_false, ↓bI_p, ↓bV_p, ↓bL_p, bIJ_s, bVJ_s, bLJ_s, ↓am_let_s, Nat.blt, Nat.ble, Bool.and_true, Bool.true_and, Bool.and_self, Int.cast_ofNat_Int, am_i_add, am_i_sub, am_i_mul, am_ok_i, am_i_cl, n_lt, n_le, n_eq, n_lt0, n_le0, n_0lt, n_0le, n_eq0, ne_eq, ↓reduceIte, not_true_eq_false, not_false_eq_true, and_true, true_and, and_false, false_and, eq_T, eq_F, lt_T, lt_F, le_T, le_F, qn_T, qn_F, and_F, b01_T, b01_F, e_isIn, Int32.toInt_toInt64, am_i_toInt, am_l_toInt, Int.toNat_natCast, Int.reduceToNat, Int.reduceAdd, Int.reduceSub, Int.reduceMul, Int.reduceNeg, Nat.reduceAdd, Nat.reduceMul, Nat.add_zero, Nat.mul_zero, Nat.zero_add, am_zb0, am_zb1, sg_X6_workOne_59]
      · unfold e1Q
        rw [if_neg (by omega)]
        have e3 := f3 I' hf
        by_cases q : 0 ≤ v ∧ v < n
        · obtain ⟨m, rfl⟩ : ∃ m : Nat, v = m := ⟨v.toNat, by omega⟩
          have e39 : I' 39 m = am_i (s.sc m) := by
            rw [hf 39 m rfl, s5 m (by omega)]
            exact hH.2.2.2.2.2.2 m (by omega)
          rw [if_pos q, Int.toNat_natCast]
          simp (disch := first | assumption | omega) only [rX hx, ly_csx, ly_cax, ly_cf, ly_kd, ly_ln, ↓Bool.cond_decide, cond_true, cond_false, ↓bI_p, ↓bV_p, ↓bL_p, bIJ_s, bVJ_s, bLJ_s, ↓am_let_s, Nat.blt, Nat.ble, Bool.and_true, Bool.true_and, Bool.and_self, Int.cast_ofNat_Int, am_i_add, am_i_sub, am_i_mul, am_ok_i, am_i_cl, n_lt, n_le, n_eq, n_lt0, n_le0, n_0lt, n_0le, n_eq0, ne_eq, ↓reduceIte, not_true_eq_false, not_false_eq_true, and_true, true_and, and_false, false_and, eq_T, eq_F, lt_T, lt_F, le_T, le_F, qn_T, qn_F, and_F, b01_T, b01_F, e_isIn, Int32.toInt_toInt64, am_i_toInt, am_l_toInt, Int.toNat_natCast, Int.reduceToNat, Int.reduceAdd, Int.reduceSub, Int.reduceMul, Int.reduceNeg, Nat.reduceAdd, Nat.reduceMul, Nat.add_zero, Nat.mul_zero, Nat.zero_add, am_zb0, am_zb1, e3, e39]
        · rw [if_neg q]
          by_cases q0 : v < 0
          · simp (disch := first | assumption | omega) only [rX hx, ly_csx, ly_cax, ly_cf, ly_kd, ly_ln, ↓Bool.cond_decide, cond_true, cond_false, ↓bI_p, ↓bV_p, ↓bL_p, bIJ_s, bVJ_s, bLJ_s, ↓am_let_s, Nat.blt, Nat.ble, Bool.and_true, Bool.true_and, Bool.and_self, Int.cast_ofNat_Int, am_i_add, am_i_sub, am_i_mul, am_ok_i, am_i_cl, n_lt, n_le, n_eq, n_lt0, n_le0, n_0lt, n_0le, n_eq0, ne_eq, ↓reduceIte, not_true_eq_false, not_false_eq_true, and_true, true_and, and_false, false_and, eq_T, eq_F, lt_T, lt_F, le_T, le_F, qn_T, qn_F, and_F, b01_T, b01_F, e_isIn, Int32.toInt_toInt64, am_i_toInt, am_l_toInt, Int.toNat_natCast, Int.reduceToNat, Int.reduceAdd, Int.reduceSub, Int.reduceMul, Int.reduceNeg, Nat.reduceAdd, Nat.reduceMul, Nat.add_zero, Nat.mul_zero, Nat.zero_add, am_zb0, am_zb1, sg_X6_workOne_88]
          · simp (disch := first | assumption | omega) only [rX hx, ly_csx, ly_cax, ly_cf, ly_kd, ly_ln, ↓Bool.cond_decide, cond_true, cond_false, ↓bI_p, ↓bV_p, ↓bL_p, bIJ_s, bVJ_s, bLJ_s, ↓am_let_s, Nat.blt, Nat.ble, Bool.and_true, Bool.true_and, Bool.and_self, Int.cast_ofNat_Int, am_i_add, am_i_sub, am_i_mul, am_ok_i, am_i_cl, n_lt, n_le, n_eq, n_lt0, n_le0, n_0lt, n_0le, n_eq0, ne_eq, ↓reduceIte, not_true_eq_false, not_false_eq_true, and_true, true_and, and_false, false_and, eq_T, eq_F, lt_T, lt_F, le_T, le_F, qn_T, qn_F, and_F, b01_T, b01_F, e_isIn, Int32.toInt_toInt64, am_i_toInt, am_l_toInt, Int.toNat_natCast, Int.reduceToNat, Int.reduceAdd, Int.reduceSub, Int.reduceMul, Int.reduceNeg, Nat.reduceAdd, Nat.reduceMul, Nat.add_zero, Nat.mul_zero, Nat.zero_add, am_zb0, am_zb1, e3, sg_X6_workOne_88]⟩) l 0 [] [] (am_up I5 36 5 (am_i 0)) hOK hW (fun t ht e5 e9 => acS_1 (by
        have : t = (5, 9) := Prod.ext e5 e9
        rw [← this]; exact ht)) (by decide) trivial (fun q k e => am_up_o (hm36 q k e).1) trivial am_up_e (by omega) (fun k t e => by rw [Nat.zero_add, o5 _ _ (by omega) (by omega) (by omega)]; exact q4 k t e)
  have ev : vl (enQ n b h wd s) (e1Q n wd wf fm s) l = v := by unfold vl; rw [g1]; rfl
  rw [ev]
  refine ⟨I', ?_, g2, fun q k e => ?_⟩
  · have run : am_E (d + 5) 49 0 [(0, .ref 36), (1, .ref 9), (2, .int (am_i 0)), (3, .int (am_i l.length))] [] (I5, J, R, 138) = some (some (.int (am_i v)), (I', J, R, 138)) := by
      rw [sg_X6_run_0]
      have e1 : (if am_i 0 < am_i 0 then am_i 0 else am_i 0) = am_i 0 := by simp
      simp (disch := first | assumption | omega) only [rX hx, ly_csx, ly_cax, ly_cf, ly_kd, ly_ln, ↓Bool.cond_decide, cond_true, cond_false, ↓bI_p, ↓bV_p, ↓bL_p, bIJ_s, bVJ_s, bLJ_s, ↓am_let_s, Nat.blt, Nat.ble, Bool.and_true, Bool.true_and, Bool.and_self, Int.cast_ofNat_Int, am_i_add, am_i_sub, am_i_mul, am_ok_i, am_i_cl, n_lt, n_le, n_eq, n_lt0, n_le0, n_0lt, n_0le, n_eq0, ne_eq, ↓reduceIte, not_true_eq_false, not_false_eq_true, and_true, true_and, and_false, false_and, eq_T, eq_F, lt_T, lt_F, le_T, le_F, qn_T, qn_F, and_F, b01_T, b01_F, e_isIn, Int32.toInt_toInt64, am_i_toInt, am_l_toInt, Int.toNat_natCast, Int.reduceToNat, Int.reduceAdd, Int.reduceSub, Int.reduceMul, Int.reduceNeg, Nat.reduceAdd, Nat.reduceMul, Nat.add_zero, Nat.mul_zero, Nat.zero_add, am_zb0, am_zb1, e1]
      exact g3
    have z82 : I5 8 2 = am_i l.length := by rw [o5 _ _ (by omega) (by omega) (by omega)]; exact q2
    obtain ⟨h1, h2, h3, h5, h6, h7, h8⟩ := hH
    have s66 : ∀ a b, shI I 35 a b 31 66 = am_i h := fun a b => by rw [shI_o (by omega)]; exact h66
    have s35 : ∀ a b, shI I 35 a b 35 5 = am_i s.su := fun a b => by rw [shI_o (by omega)]; exact h5
    have s37 : ∀ a b, shI I 35 a b 35 7 = am_i n := fun a b => by rw [shI_o (by omega)]; exact h7
    have su1 := hO.2.2.2.1
    have cy := cy_39
    rw [sg_X11_valueFor_69]
    unfold qvI at hI5
    by_cases qs : s.su = 0
    · rw [qs] at s35 hI5
      have s35' : ∀ a b, shI I 35 a b 35 5 = am_i 0 := s35
      have hI5' : I5 = am_cp (am_up (am_up (am_up (am_up (shI I 35 (am_i (if n = 0 then -1 else (s.sc s.pl : Int))) (am_i wd)) 37 17 (am_i b)) 37 18 (am_i 0)) 37 19 (am_i h)) 36 3 (am_i n)) 41 0 39 0 6 := hI5
      simp (disch := first | assumption | omega) only [rX hx, ly_csx, ly_cax, ly_cf, ly_kd, ly_ln, ↓Bool.cond_decide, cond_true, cond_false, ↓bI_p, ↓bV_p, ↓bL_p, bIJ_s, bVJ_s, bLJ_s, ↓am_let_s, Nat.blt, Nat.ble, Bool.and_true, Bool.true_and, Bool.and_self, Int.cast_ofNat_Int, am_i_add, am_i_sub, am_i_mul, am_ok_i, am_i_cl, n_lt, n_le, n_eq, n_lt0, n_le0, n_0lt, n_0le, n_eq0, ne_eq, ↓reduceIte, not_true_eq_false, not_false_eq_true, and_true, true_and, and_false, false_and, eq_T, eq_F, lt_T, lt_F, le_T, le_F, qn_T, qn_F, and_F, b01_T, b01_F, e_isIn, Int32.toInt_toInt64, am_i_toInt, am_l_toInt, Int.toNat_natCast, Int.reduceToNat, Int.reduceAdd, Int.reduceSub, Int.reduceMul, Int.reduceNeg, Nat.reduceAdd, Nat.reduceMul, Nat.add_zero, Nat.mul_zero, Nat.zero_add, am_zb0, am_zb1, h4, rC hx hc, nx, i4, sh, am_up_o, s66, s35', s37, cy]
      rw [← hI5', z82, run]
      rfl
    · have q1' : s.su = 1 := by omega
      rw [q1'] at s35 hI5
      have s35' : ∀ a b, shI I 35 a b 35 5 = am_i 1 := s35
      have hI5' : I5 = am_cp (am_up (am_up (am_up (am_up (shI I 35 (am_i (if n = 0 then -1 else (s.sc s.pl : Int))) (am_i wd)) 37 17 (am_i b)) 37 18 (am_i 1)) 37 19 (am_i h)) 36 3 (am_i n)) 41 0 39 0 6 := hI5
      simp (disch := first | assumption | omega) only [rX hx, ly_csx, ly_cax, ly_cf, ly_kd, ly_ln, ↓Bool.cond_decide, cond_true, cond_false, ↓bI_p, ↓bV_p, ↓bL_p, bIJ_s, bVJ_s, bLJ_s, ↓am_let_s, Nat.blt, Nat.ble, Bool.and_true, Bool.true_and, Bool.and_self, Int.cast_ofNat_Int, am_i_add, am_i_sub, am_i_mul, am_ok_i, am_i_cl, n_lt, n_le, n_eq, n_lt0, n_le0, n_0lt, n_0le, n_eq0, ne_eq, ↓reduceIte, not_true_eq_false, not_false_eq_true, and_true, true_and, and_false, false_and, eq_T, eq_F, lt_T, lt_F, le_T, le_F, qn_T, qn_F, and_F, b01_T, b01_F, e_isIn, Int32.toInt_toInt64, am_i_toInt, am_l_toInt, Int.toNat_natCast, Int.reduceToNat, Int.reduceAdd, Int.reduceSub, Int.reduceMul, Int.reduceNeg, Nat.reduceAdd, Nat.reduceMul, Nat.add_zero, Nat.mul_zero, Nat.zero_add, am_zb0, am_zb1, h4, rC hx hc, nx, i4, sh, am_up_o, s66, s35', s37, cy]
      rw [← hI5', z82, run]
      rfl
  · have e' := hS_f.mp e
    rw [g4 q k (by unfold mcS; simp; omega), o5 _ _ (by omega) (by omega) (by omega)]
theorem qfX_c {I I' : tI} (h : qfX l I) (e : ∀ q k, q = 8 ∨ q = 9 → I' q k = I q k) : qfX l I' := ⟨h.1, by rw [e _ _ (Or.inl rfl)]; exact h.2.1, by rw [e _ _ (Or.inl rfl)]; exact h.2.2.1, fun k t ht => by rw [e _ _ (Or.inr rfl)]; exact h.2.2.2 k t ht⟩
/-- the value for a boat -/
theorem x_value (hx : st_Rx R) (h4 : R 3 4 = c) (hc : c = 10 ∨ c = 20) (hr : rR R R) {I : tI} (hX : cxX c last wd wf fm I) (hO : bOK last n s) (hn : n ≤ 6) (hb : b < 6) (hcn : I (c + 4) b = am_i n) (hB : bX (I 31) (11 * b) n s) (h66 : I 31 66 = am_i h) (hh : h ≤ 999) (hq : qfX l I) (hOK : tokOK [] l = some [bb]) (hW : ∀ t ∈ l, tokW true false t) : ∃ I', am_E (d + 6) 162 0 [(0, .ref 3), (1, .int (am_i b))] [] (I, J, R, 138) = some (some (.int (am_i (vl (enQ n b h wd s) (e1Q n wd wf fm s) l))), (I', J, am_up R 35 1 c, 138)) ∧ vOK bb (vl (enQ n b h wd s) (e1Q n wd wf fm s) l) ∧ fr (hS 35) I I' := by
  have hl := hX.2.1
  have hu := hX.2.2.2.1
  obtain ⟨r0, M0, ld, I1, rfl, rfl, hf1, hH1⟩ := x_load (d := d + 4) (J := J) (s := s) hx (Or.inl rfl) hc hb hcn hn hO.2.2.2.1 hB
  have ld' : am_E (d + 5) 37 0 [(0, .ref 35), (1, .ref c), (2, .ref 31), (3, .int (am_i b))] [] (I, J, R, 138) = some (none, (I1, J, am_up R 35 1 c, 138)) := ld
  have hR1 : rR R (am_up R 35 1 c) := rR_u hr hc (Or.inl rfl)
  have hx1 := rR_x hR1 hx
  have h41 : am_up R 35 1 c 3 4 = c := h4
  have o1 : ∀ q k, ¬ (35 ≤ q ∧ q ≤ 41) → I1 q k = I q k := fun q k e => hf1 q k (hS_f.mpr (by omega))
  have hX1 : cxX c last wd wf fm I1 := cxX_c hc (fun q k a1 a2 => o1 q k (by omega)) hX
  have hq1 : qfX l I1 := qfX_c hq (fun q k e => o1 q k (by omega))
  have ac2 := acS_b (ac := 0) (l := l)
  have q3 := hq1.2.2.1
  by_cases q : acS 0 l = 1
  · rw [q] at q3
    have q3' : I1 8 3 = am_i 1 := q3
    obtain ⟨I2, a1, a2, a3⟩ := x_v36 (d := d) (J := J) (b := b) (n := n) hx1 h41 hc am_up_e hO hu hX1 hH1 8 0 I1 (by omega) (fun _ _ _ => rfl) (fun j hj => absurd hj (Nat.not_lt_zero _))
    have a1' : am_E (d + 6) 162 36 [(0, .ref 3), (1, .int (am_i b)), (2, .ref 36), (3, .int (am_i 0))] [] (I1, J, am_up R 35 1 c, 138) = _ := a1
    have o2 : ∀ q k, ¬ (36 ≤ q ∧ q ≤ 40) → I2 q k = I1 q k := fun q k e => a2 q k (fun x => by
      rcases x with x | x
      · rw [vS_f (by omega) (by omega) (by omega)] at x; cases x
      · omega)
    have hH2 : hullR 35 I2 n s := by
      obtain ⟨y1, y2, y3, y4, y5, y6, y7⟩ := hH1
      exact ⟨by rw [o2 _ _ (by omega)]; exact y1, by rw [o2 _ _ (by omega)]; exact y2, by rw [o2 _ _ (by omega)]; exact y3, by rw [o2 _ _ (by omega)]; exact y4, by rw [o2 _ _ (by omega)]; exact y5, by rw [o2 _ _ (by omega)]; exact y6, fun k hk => by rw [o2 _ _ (by omega)]; exact y7 k hk⟩
    obtain ⟨I3, b1, b2, b3⟩ := x_v69 (d := d) (J := J) (b := b) hx1 h41 hc hO hl hn hb hu hH2 (by rw [o2 _ _ (by omega)]; exact hX1.2.2.1) (by rw [o2 _ _ (by omega), o1 _ _ (by omega)]; exact h66) hh (qfX_c hq1 (fun q k e => o2 q k (by omega))) (fun _ => a3) hOK hW
    refine ⟨I3, ?_, b2, fun q k e => ?_⟩
    · rw [← b1, sg_X11_valueFor_0]
      simp (disch := first | assumption | omega) only [rX hx, ly_csx, ly_cax, ly_cf, ly_kd, ly_ln, ↓Bool.cond_decide, cond_true, cond_false, ↓bI_p, ↓bV_p, ↓bL_p, bIJ_s, bVJ_s, bLJ_s, ↓am_let_s, Nat.blt, Nat.ble, Bool.and_true, Bool.true_and, Bool.and_self, Int.cast_ofNat_Int, am_i_add, am_i_sub, am_i_mul, am_ok_i, am_i_cl, n_lt, n_le, n_eq, n_lt0, n_le0, n_0lt, n_0le, n_eq0, ne_eq, ↓reduceIte, not_true_eq_false, not_false_eq_true, and_true, true_and, and_false, false_and, eq_T, eq_F, lt_T, lt_F, le_T, le_F, qn_T, qn_F, and_F, b01_T, b01_F, e_isIn, Int32.toInt_toInt64, am_i_toInt, am_l_toInt, Int.toNat_natCast, Int.reduceToNat, Int.reduceAdd, Int.reduceSub, Int.reduceMul, Int.reduceNeg, Nat.reduceAdd, Nat.reduceMul, Nat.add_zero, Nat.mul_zero, Nat.zero_add, am_zb0, am_zb1, h4, ld']
      simp (disch := first | assumption | omega) only [am_i_add, am_i_sub, am_i_mul, am_ok_i, am_i_cl, n_lt, n_le, n_eq, n_lt0, n_le0, n_0lt, n_0le, n_eq0, ne_eq, ↓reduceIte, not_true_eq_false, not_false_eq_true, and_true, true_and, and_false, false_and, eq_T, eq_F, lt_T, lt_F, le_T, le_F, qn_T, qn_F, and_F, b01_T, b01_F, e_isIn, Int32.toInt_toInt64, am_i_toInt, am_l_toInt, Int.toNat_natCast, Int.reduceToNat, Int.reduceAdd, Int.reduceSub, Int.reduceMul, Int.reduceNeg, Nat.reduceAdd, Nat.reduceMul, Nat.add_zero, Nat.mul_zero, Nat.zero_add, am_zb0, am_zb1, ly_cf, ↓Bool.cond_decide, cond_true, cond_false, ↓am_let_s, rX hx1, q3']
      exact a1'
    · have e' := hS_f.mp e
      rw [b3 q k e, o2 _ _ (by omega), o1 _ _ (by omega)]
  · have q0 : acS 0 l = 0 := by omega
    rw [q0] at q3
    have q3' : I1 8 3 = am_i 0 := q3
    obtain ⟨I3, b1, b2, b3⟩ := x_v69 (d := d) (J := J) (b := b) (wf := wf) (fm := fm) hx1 h41 hc hO hl hn hb hu hH1 hX1.2.2.1 (by rw [o1 _ _ (by omega)]; exact h66) hh hq1 (fun e => absurd e q) hOK hW
    refine ⟨I3, ?_, b2, fun q k e => ?_⟩
    · rw [← b1, sg_X11_valueFor_0]
      simp (disch := first | assumption | omega) only [rX hx, ly_csx, ly_cax, ly_cf, ly_kd, ly_ln, ↓Bool.cond_decide, cond_true, cond_false, ↓bI_p, ↓bV_p, ↓bL_p, bIJ_s, bVJ_s, bLJ_s, ↓am_let_s, Nat.blt, Nat.ble, Bool.and_true, Bool.true_and, Bool.and_self, Int.cast_ofNat_Int, am_i_add, am_i_sub, am_i_mul, am_ok_i, am_i_cl, n_lt, n_le, n_eq, n_lt0, n_le0, n_0lt, n_0le, n_eq0, ne_eq, ↓reduceIte, not_true_eq_false, not_false_eq_true, and_true, true_and, and_false, false_and, eq_T, eq_F, lt_T, lt_F, le_T, le_F, qn_T, qn_F, and_F, b01_T, b01_F, e_isIn, Int32.toInt_toInt64, am_i_toInt, am_l_toInt, Int.toNat_natCast, Int.reduceToNat, Int.reduceAdd, Int.reduceSub, Int.reduceMul, Int.reduceNeg, Nat.reduceAdd, Nat.reduceMul, Nat.add_zero, Nat.mul_zero, Nat.zero_add, am_zb0, am_zb1, h4, ld']
      simp (disch := first | assumption | omega) only [am_i_add, am_i_sub, am_i_mul, am_ok_i, am_i_cl, n_lt, n_le, n_eq, n_lt0, n_le0, n_0lt, n_0le, n_eq0, ne_eq, ↓reduceIte, not_true_eq_false, not_false_eq_true, and_true, true_and, and_false, false_and, eq_T, eq_F, lt_T, lt_F, le_T, le_F, qn_T, qn_F, and_F, b01_T, b01_F, e_isIn, Int32.toInt_toInt64, am_i_toInt, am_l_toInt, Int.toNat_natCast, Int.reduceToNat, Int.reduceAdd, Int.reduceSub, Int.reduceMul, Int.reduceNeg, Nat.reduceAdd, Nat.reduceMul, Nat.add_zero, Nat.mul_zero, Nat.zero_add, am_zb0, am_zb1, ly_cf, ↓Bool.cond_decide, cond_true, cond_false, ↓am_let_s, rX hx1, q3']
    · have e' := hS_f.mp e
      rw [b3 q k e, o1 _ _ (by omega)]
end XVAL
