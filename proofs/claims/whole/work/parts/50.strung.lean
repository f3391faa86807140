/-! ===== strung ===== -/
def beF (v : Nat → Int) : Nat → Nat → Int → Int → Int × Int
  | 0, _, C, S => (C, S)
  | m + 1, i, C, S => if v i = -1 ∨ (S ≠ -1 ∧ S ≤ v i) then beF v m (i + 1) C S else beF v m (i + 1) i (v i)
section STRUNG
variable {d : Nat} {J : tJ} {R0 : tR} {c last wd nb n b : Nat} {nt wf : Nat → Nat} {fm : Nat → List tok} {h u : Nat}
theorem laF_le : ∀ (m m' k : Nat) (x : bt), m ≤ m' → laF last wf fm u n m k x = if laF last wf fm u n m' k x ≠ -1 ∧ laF last wf fm u n m' k x ≤ k + m then laF last wf fm u n m' k x else -1
  | m, m', k, x, hm => by
    by_cases q : x.mi = last
    · have e1 : laF last wf fm u n m k x = k := by cases m <;> exact if_pos q
      have e2 : laF last wf fm u n m' k x = k := by cases m' <;> exact if_pos q
      rw [e1, e2, if_pos (by omega)]
    · cases m with
      | zero =>
        have e1 : laF last wf fm u n 0 k x = -1 := if_neg q
        rw [e1]
        cases m' with
        | zero => rw [e1, if_neg (fun e => e.1 rfl)]
        | succ m' =>
          have e2 : laF last wf fm u n (m' + 1) k x = laF last wf fm u n m' (k + 1) (paS last wf fm u n x) := if_neg q
          rw [e2]
          rcases laF_b (last := last) (wf := wf) (fm := fm) (u := u) (n := n) m' (k + 1) (paS last wf fm u n x) with e | e
          · rw [e, if_neg (fun e => e.1 rfl)]
          · rw [if_neg (by omega)]
      | succ m =>
        cases m' with
        | zero => omega
        | succ m' =>
          have e1 : laF last wf fm u n (m + 1) k x = laF last wf fm u n m (k + 1) (paS last wf fm u n x) := if_neg q
          have e2 : laF last wf fm u n (m' + 1) k x = laF last wf fm u n m' (k + 1) (paS last wf fm u n x) := if_neg q
          rw [e1, e2, laF_le m m' (k + 1) (paS last wf fm u n x) (by omega)]
          have : ((k + 1 : Nat) : Int) + (m : Int) = (k : Int) + ((m + 1 : Nat) : Int) := by omega
          rw [this]
theorem laF_1 {m : Nat} {x : bt} (q : x.mi ≠ last) : laF last wf fm u n m 0 x = -1 ∨ (1 ≤ laF last wf fm u n m 0 x ∧ laF last wf fm u n m 0 x ≤ m) := by
  cases m with
  | zero => exact Or.inl (if_neg q)
  | succ m =>
    have e2 : laF last wf fm u n (m + 1) 0 x = laF last wf fm u n m (0 + 1) (paS last wf fm u n x) := if_neg q
    rw [e2]
    rcases laF_b (last := last) (wf := wf) (fm := fm) (u := u) (n := n) m (0 + 1) (paS last wf fm u n x) with e | e
    · exact Or.inl e
    · right; omega
theorem x_try {I : tI} {R : tR} {z : Int} (hx : st_Rx R) (hh : h ≤ 999) (e : I 31 66 = am_i h) (z1 : -2147483648 ≤ z) (z2 : z < 2147483648) : am_E (d + 2) 151 0 [(0, .ref 3), (1, .int (am_i z))] [] (I, J, R, 138) = some (some (.int (b01 (1 ≤ z ∧ z ≤ (min 30 (999 - h) : Nat)))), (I, J, R, 138)) := by
  have xA : ∀ d, am_E (d + 1) 150 0 [(0, .ref 3), (1, .int (am_i 30))] [] (I, J, R, 138) = some (some (.int (am_i (min 30 (999 - h) : Nat))), (I, J, R, 138)) := fun d => x_ahead (m := 30) hx (by omega) hh e
  rw [sg_X11_canTry_0]
  by_cases q : 1 ≤ z
  · by_cases q2 : z ≤ (min 30 (999 - h) : Nat)
    · rw [b01_t ⟨q, q2⟩]
      simp (disch := first | assumption | omega) only [rX hx, ly_csx, ly_cax, ly_cf, ly_kd, ly_ln, ↓Bool.cond_decide, cond_true, cond_false, ↓bI_p, ↓bV_p, ↓bL_p, bIJ_s, bVJ_s, bLJ_s, ↓am_let_s, Nat.blt, Nat.ble, Bool.and_true, Bool.true_and, Bool.and_self, Int.cast_ofNat_Int, am_i_add, am_i_sub, am_i_mul, am_ok_i, am_i_cl, n_lt, n_le, n_eq, n_lt0, n_le0, n_0lt, n_0le, n_eq0, ne_eq, ↓reduceIte, not_true_eq_false, not_false_eq_true, and_true, true_and, and_false, false_and, eq_T, eq_F, lt_T, lt_F, le_T, le_F, qn_T, qn_F, and_F, b01_T, b01_F, e_isIn, Int32.toInt_toInt64, am_i_toInt, am_l_toInt, Int.toNat_natCast, Int.reduceToNat, Int.reduceAdd, Int.reduceSub, Int.reduceMul, Int.reduceNeg, Nat.reduceAdd, Nat.reduceMul, Nat.add_zero, Nat.mul_zero, Nat.zero_add, am_zb0, am_zb1, xA, sg_X11_canTry_19]
    · rw [b01_f (fun e => q2 e.2)]
      simp (disch := first | assumption | omega) only [rX hx, ly_csx, ly_cax, ly_cf, ly_kd, ly_ln, ↓Bool.cond_decide, cond_true, cond_false, ↓bI_p, ↓bV_p, ↓bL_p, bIJ_s, bVJ_s, bLJ_s, ↓am_let_s, Nat.blt, Nat.ble, Bool.and_true, Bool.true_and, Bool.and_self, Int.cast_ofNat_Int, am_i_add, am_i_sub, am_i_mul, am_ok_i, am_i_cl, n_lt, n_le, n_eq, n_lt0, n_le0, n_0lt, n_0le, n_eq0, ne_eq, ↓reduceIte, not_true_eq_false, not_false_eq_true, and_true, true_and, and_false, false_and, eq_T, eq_F, lt_T, lt_F, le_T, le_F, qn_T, qn_F, and_F, b01_T, b01_F, e_isIn, Int32.toInt_toInt64, am_i_toInt, am_l_toInt, Int.toNat_natCast, Int.reduceToNat, Int.reduceAdd, Int.reduceSub, Int.reduceMul, Int.reduceNeg, Nat.reduceAdd, Nat.reduceMul, Nat.add_zero, Nat.mul_zero, Nat.zero_add, am_zb0, am_zb1, xA, sg_X11_canTry_19]
  · rw [b01_f (fun e => q e.1)]
    simp (disch := first | assumption | omega) only [rX hx, ly_csx, ly_cax, ly_cf, ly_kd, ly_ln, ↓Bool.cond_decide, cond_true, cond_false, ↓bI_p, ↓bV_p, ↓bL_p, bIJ_s, bVJ_s, bLJ_s, ↓am_let_s, Nat.blt, Nat.ble, Bool.and_true, Bool.true_and, Bool.and_self, Int.cast_ofNat_Int, am_i_add, am_i_sub, am_i_mul, am_ok_i, am_i_cl, n_lt, n_le, n_eq, n_lt0, n_le0, n_0lt, n_0le, n_eq0, ne_eq, ↓reduceIte, not_true_eq_false, not_false_eq_true, and_true, true_and, and_false, false_and, eq_T, eq_F, lt_T, lt_F, le_T, le_F, qn_T, qn_F, and_F, b01_T, b01_F, e_isIn, Int32.toInt_toInt64, am_i_toInt, am_l_toInt, Int.toNat_natCast, Int.reduceToNat, Int.reduceAdd, Int.reduceSub, Int.reduceMul, Int.reduceNeg, Nat.reduceAdd, Nat.reduceMul, Nat.add_zero, Nat.mul_zero, Nat.zero_add, am_zb0, am_zb1, sg_X11_canTry_19]
def tiS (x : bt) (t : Nat) : bt := (x.mi, t, x.ro, x.su, x.pl, x.sc)
theorem tiS_ok {x : bt} {t : Nat} (h : bOK last n x) (ht : t ≤ 99) : bOK last n (tiS x t) := ⟨h.1, ht, h.2.2.1, h.2.2.2.1, h.2.2.2.2.1, h.2.2.2.2.2.1, h.2.2.2.2.2.2⟩
def upS (s : Nat → bt) (b : Nat) (x : bt) : Nat → bt := fun j => if j = b then x else s j
theorem upS_e {s : Nat → bt} {b : Nat} {x : bt} : upS s b x b = x := if_pos rfl
theorem upS_o {s : Nat → bt} {b j : Nat} {x : bt} (h : ¬ j = b) : upS s b x j = s j := if_neg h
/-- what strung answers -/
def stA' (w : Int) (r : Int × Int) : Int := if r.1 = -1 then -1 else if w = 0 then r.1 else if w = 1 then r.2 else -1
theorem x_st {I0 : tI} {x : bt} {z : Nat} {w : Int} (hx : st_Rx R0) (h4 : R0 3 4 = c) (hc : c = 10 ∨ c = 20) (hn : n ≤ 6) (hz : z ≤ 30) (w1 : -2147483648 ≤ w) (w2 : w < 2147483648) (hb : b < 6) (hX : cxX c last wd wf fm I0) (hO : bOK last n x) (hnl : x.mi ≠ last) (hbn : I0 (c + 4) b = am_i n) (hbx : bX (I0 31) (11 * b) n x) : ∀ (m t : Nat) (C S : Int) (I : tI) (R : tR), t + m = 100 → rR R0 R → (∀ q k, ¬ (35 ≤ q ∧ q ≤ 41) → I q k = I0 q k) → (C = -1 ∨ 0 ≤ C ∧ C < 100) → (S = -1 ∨ 1 ≤ S ∧ S ≤ z) → (C ≠ -1 → S ≠ -1) → Wp (fun r M => ∃ I' R', r = some (.int (am_i (stA' w (beF (fun t => laF last wf fm wd n z 0 (tiS x t)) m t C S)))) ∧ M = (I', J, R', 138) ∧ rR R0 R' ∧ ∀ q k, ¬ (35 ≤ q ∧ q ≤ 41) → I' q k = I0 q k) (am_E (d + 8) 117 37 [(0, .ref 3), (1, .int (am_i b)), (3, .int (am_i w)), (4, .int (am_i (if S = -1 then (z : Int) + 1 else S))), (5, .int (am_i C)), (6, .int (am_i t))] [] (I, J, R, 138))
  | 0, t, C, S, I, R, ht, hR, hI, hC, hS, hCS => by
    rw [sg_X11_strung_37]
    show Wp (fun r M => ∃ I' R', r = some (.int (am_i (stA' w (C, S)))) ∧ _) _
    by_cases q : C = -1
    · simp (disch := first | assumption | omega) only [am_i_add, am_i_sub, am_i_mul, am_ok_i, am_i_cl, n_lt, n_le, n_eq, n_lt0, n_le0, n_0lt, n_0le, n_eq0, ne_eq, ↓reduceIte, not_true_eq_false, not_false_eq_true, and_true, true_and, and_false, false_and, eq_T, eq_F, lt_T, lt_F, le_T, le_F, qn_T, qn_F, and_F, b01_T, b01_F, e_isIn, Int32.toInt_toInt64, am_i_toInt, am_l_toInt, Int.toNat_natCast, Int.reduceToNat, Int.reduceAdd, Int.reduceSub, Int.reduceMul, Int.reduceNeg, Nat.reduceAdd, Nat.reduceMul, Nat.add_zero, Nat.mul_zero, Nat.zero_add, am_zb0, am_zb1, ↓Bool.cond_decide, cond_true, cond_false, ↓am_let_s, ↓bI_p, bIJ_s, ↓bV_p, bVJ_s, ↓bL_p, bLJ_s, ly_cf, Bool.and_self, Bool.and_true]
      exact Wp_r ⟨I, R, by unfold stA'; rw [if_pos q], rfl, hR, hI⟩
    · have hS' : S ≠ -1 := hCS q
      rw [if_neg hS']
      by_cases q0 : w = 0
      · simp (disch := first | assumption | omega) only [am_i_add, am_i_sub, am_i_mul, am_ok_i, am_i_cl, n_lt, n_le, n_eq, n_lt0, n_le0, n_0lt, n_0le, n_eq0, ne_eq, ↓reduceIte, not_true_eq_false, not_false_eq_true, and_true, true_and, and_false, false_and, eq_T, eq_F, lt_T, lt_F, le_T, le_F, qn_T, qn_F, and_F, b01_T, b01_F, e_isIn, Int32.toInt_toInt64, am_i_toInt, am_l_toInt, Int.toNat_natCast, Int.reduceToNat, Int.reduceAdd, Int.reduceSub, Int.reduceMul, Int.reduceNeg, Nat.reduceAdd, Nat.reduceMul, Nat.add_zero, Nat.mul_zero, Nat.zero_add, am_zb0, am_zb1, ↓Bool.cond_decide, cond_true, cond_false, ↓am_let_s, ↓bI_p, bIJ_s, ↓bV_p, bVJ_s, ↓bL_p, bLJ_s, ly_cf, Bool.and_self, Bool.and_true]
        exact Wp_r ⟨I, R, by unfold stA'; rw [if_neg q, if_pos q0], rfl, hR, hI⟩
      · by_cases q1 : w = 1
        · simp (disch := first | assumption | omega) only [am_i_add, am_i_sub, am_i_mul, am_ok_i, am_i_cl, n_lt, n_le, n_eq, n_lt0, n_le0, n_0lt, n_0le, n_eq0, ne_eq, ↓reduceIte, not_true_eq_false, not_false_eq_true, and_true, true_and, and_false, false_and, eq_T, eq_F, lt_T, lt_F, le_T, le_F, qn_T, qn_F, and_F, b01_T, b01_F, e_isIn, Int32.toInt_toInt64, am_i_toInt, am_l_toInt, Int.toNat_natCast, Int.reduceToNat, Int.reduceAdd, Int.reduceSub, Int.reduceMul, Int.reduceNeg, Nat.reduceAdd, Nat.reduceMul, Nat.add_zero, Nat.mul_zero, Nat.zero_add, am_zb0, am_zb1, ↓Bool.cond_decide, cond_true, cond_false, ↓am_let_s, ↓bI_p, bIJ_s, ↓bV_p, bVJ_s, ↓bL_p, bLJ_s, ly_cf, Bool.and_self, Bool.and_true]
          exact Wp_r ⟨I, R, by unfold stA'; rw [if_neg q, if_neg q0, if_pos q1], rfl, hR, hI⟩
        · simp (disch := first | assumption | omega) only [am_i_add, am_i_sub, am_i_mul, am_ok_i, am_i_cl, n_lt, n_le, n_eq, n_lt0, n_le0, n_0lt, n_0le, n_eq0, ne_eq, ↓reduceIte, not_true_eq_false, not_false_eq_true, and_true, true_and, and_false, false_and, eq_T, eq_F, lt_T, lt_F, le_T, le_F, qn_T, qn_F, and_F, b01_T, b01_F, e_isIn, Int32.toInt_toInt64, am_i_toInt, am_l_toInt, Int.toNat_natCast, Int.reduceToNat, Int.reduceAdd, Int.reduceSub, Int.reduceMul, Int.reduceNeg, Nat.reduceAdd, Nat.reduceMul, Nat.add_zero, Nat.mul_zero, Nat.zero_add, am_zb0, am_zb1, ↓Bool.cond_decide, cond_true, cond_false, ↓am_let_s, ↓bI_p, bIJ_s, ↓bV_p, bVJ_s, ↓bL_p, bLJ_s, ly_cf, Bool.and_self, Bool.and_true]
          exact Wp_r ⟨I, R, by unfold stA'; rw [if_neg q, if_neg q0, if_neg q1], rfl, hR, hI⟩
  | m + 1, t, C, S, I, R, ht, hR, hI, hC, hS, hCS => by
    obtain ⟨B, hB, hB1, hB2⟩ : ∃ B : Nat, (if S = -1 then (z : Int) + 1 else S) = B ∧ 1 ≤ B ∧ B ≤ z + 1 := by
      refine ⟨(if S = -1 then (z : Int) + 1 else S).toNat, ?_, ?_, ?_⟩ <;> split <;> omega
    rw [hB]
    have hxR := rR_x hR hx
    have h4R : R 3 4 = c := by rw [hR.1 _ _ (by omega)]; exact h4
    rw [sg_X11_strung_37]
    simp (disch := first | assumption | omega) only [am_i_add, am_i_sub, am_i_mul, am_ok_i, am_i_cl, n_lt, n_le, n_eq, n_lt0, n_le0, n_0lt, n_0le, n_eq0, ne_eq, ↓reduceIte, not_true_eq_false, not_false_eq_true, and_true, true_and, and_false, false_and, eq_T, eq_F, lt_T, lt_F, le_T, le_F, qn_T, qn_F, and_F, b01_T, b01_F, e_isIn, Int32.toInt_toInt64, am_i_toInt, am_l_toInt, Int.toNat_natCast, Int.reduceToNat, Int.reduceAdd, Int.reduceSub, Int.reduceMul, Int.reduceNeg, Nat.reduceAdd, Nat.reduceMul, Nat.add_zero, Nat.mul_zero, Nat.zero_add, am_zb0, am_zb1, ↓Bool.cond_decide, cond_true, cond_false, ↓am_let_s, ↓bI_p, bIJ_s, ↓bV_p, bVJ_s, ↓bL_p, bLJ_s, ly_cf, Bool.and_self, Bool.and_true, rX hxR, h4R]
    refine Wp_V (x_load (s := x) (n := n) (b := b) hxR (Or.inl rfl) hc hb (by rw [hI _ _ (by omega)]; exact hbn) hn hO.2.2.2.1 (by
      obtain ⟨v0, v1, v2, v3, v4, v5⟩ := hbx
      exact ⟨by rw [hI _ _ (by omega)]; exact v0, by rw [hI _ _ (by omega)]; exact v1, by rw [hI _ _ (by omega)]; exact v2, by rw [hI _ _ (by omega)]; exact v3, by rw [hI _ _ (by omega)]; exact v4, fun k hk => by rw [hI _ _ (by omega)]; exact v5 k hk⟩)) ?_
    rintro _ _ ⟨I1, rfl, rfl, hf1, hH⟩
    refine ⟨rfl, ?_⟩
    have hR1 : rR R0 (am_up R 35 1 c) := rR_u hR hc (Or.inl rfl)
    have hx1 := rR_x hR1 hx
    have e1 : am_i ((B : Int) - 1) = am_i ((B - 1 : Nat) : Int) := by congr 1; omega
    simp (disch := first | assumption | omega) only [am_i_add, am_i_sub, am_i_mul, am_ok_i, am_i_cl, n_lt, n_le, n_eq, n_lt0, n_le0, n_0lt, n_0le, n_eq0, ne_eq, ↓reduceIte, not_true_eq_false, not_false_eq_true, and_true, true_and, and_false, false_and, eq_T, eq_F, lt_T, lt_F, le_T, le_F, qn_T, qn_F, and_F, b01_T, b01_F, e_isIn, Int32.toInt_toInt64, am_i_toInt, am_l_toInt, Int.toNat_natCast, Int.reduceToNat, Int.reduceAdd, Int.reduceSub, Int.reduceMul, Int.reduceNeg, Nat.reduceAdd, Nat.reduceMul, Nat.add_zero, Nat.mul_zero, Nat.zero_add, am_zb0, am_zb1, ↓Bool.cond_decide, cond_true, cond_false, ↓am_let_s, ↓bI_p, bIJ_s, ↓bV_p, bVJ_s, ↓bL_p, bLJ_s, ly_cf, Bool.and_self, Bool.and_true, rX hx1, e1]
    have g1 : ∀ q k, ¬ (35 ≤ q ∧ q ≤ 41) → am_up I1 35 3 (am_i t) q k = I0 q k := fun q k e => by
      rw [am_up_o (by omega), hf1 q k (hS_f.mpr (by omega)), hI q k e]
    have hH1 : hullR 35 (am_up I1 35 3 (am_i t)) n (tiS x t) := by
      obtain ⟨k1, k2, k3, k4, k5, k6, k7⟩ := hH
      exact ⟨by rw [am_up_o (by omega)]; exact k1, am_up_e, by rw [am_up_o (by omega)]; exact k3, by rw [am_up_o (by omega)]; exact k4, by rw [am_up_o (by omega)]; exact k5, by rw [am_up_o (by omega)]; exact k6, fun k hk => by rw [am_up_o (by omega)]; exact k7 k hk⟩
    refine Wp_I (Wp_e (sg_X5_landsBehind_0 _ _ _ _) (x_lb (d := d) (z := B - 1) hx1 (Or.inl rfl) hc am_up_e hn (by omega) (B - 1) 0 (tiS x t) (am_up I1 35 3 (am_i t)) (by omega) (cxX_c hc (fun q k a1 a2 => g1 q k (by omega)) hX) (tiS_ok hO (by omega)) hH1)) ?_
    rintro _ _ ⟨I2, rfl, rfl, hf2⟩
    refine ⟨_, rfl, ?_⟩
    have g2 : ∀ q k, ¬ (35 ≤ q ∧ q ≤ 41) → I2 q k = I0 q k := fun q k e => by rw [hf2 q k (hS_f.mpr (by omega)), g1 q k e]
    have hle := laF_le (last := last) (wf := wf) (fm := fm) (u := wd) (n := n) (B - 1) z 0 (tiS x t) (by omega)
    have h1 := laF_1 (last := last) (wf := wf) (fm := fm) (u := wd) (n := n) (m := z) (x := tiS x t) hnl
    show Wp (fun r M => ∃ I' R', r = some (.int (am_i (stA' w (if laF last wf fm wd n z 0 (tiS x t) = -1 ∨ (S ≠ -1 ∧ S ≤ laF last wf fm wd n z 0 (tiS x t)) then beF (fun t => laF last wf fm wd n z 0 (tiS x t)) m (t + 1) C S else beF (fun t => laF last wf fm wd n z 0 (tiS x t)) m (t + 1) t (laF last wf fm wd n z 0 (tiS x t)))))) ∧ M = (I', J, R', 138) ∧ rR R0 R' ∧ ∀ q k, ¬ (35 ≤ q ∧ q ≤ 41) → I' q k = I0 q k) _
    generalize laF last wf fm wd n z 0 (tiS x t) = v at hle h1 ⊢
    generalize laF last wf fm wd n (B - 1) 0 (tiS x t) = v' at hle ⊢
    by_cases qv : v = -1 ∨ (S ≠ -1 ∧ S ≤ v)
    · have hv' : v' = -1 := by
        rw [hle, if_neg]
        intro e
        split at hB <;> omega
      subst hv'
      rw [if_pos qv]
      simp (disch := first | assumption | omega) only [am_i_add, am_i_sub, am_i_mul, am_ok_i, am_i_cl, n_lt, n_le, n_eq, n_lt0, n_le0, n_0lt, n_0le, n_eq0, ne_eq, ↓reduceIte, not_true_eq_false, not_false_eq_true, and_true, true_and, and_false, false_and, eq_T, eq_F, lt_T, lt_F, le_T, le_F, qn_T, qn_F, and_F, b01_T, b01_F, e_isIn, Int32.toInt_toInt64, am_i_toInt, am_l_toInt, Int.toNat_natCast, Int.reduceToNat, Int.reduceAdd, Int.reduceSub, Int.reduceMul, Int.reduceNeg, Nat.reduceAdd, Nat.reduceMul, Nat.add_zero, Nat.mul_zero, Nat.zero_add, am_zb0, am_zb1, ↓Bool.cond_decide, cond_true, cond_false, ↓am_let_s, ↓bI_p, bIJ_s, ↓bV_p, bVJ_s, ↓bL_p, bLJ_s, ly_cf, Bool.and_self, Bool.and_true, sg_X11_strung_96, am_i_s]
      rw [← hB]
      exact x_st hx h4 hc hn hz w1 w2 hb hX hO hnl hbn hbx m (t + 1) C S I2 _ (by omega) hR1 g2 hC hS hCS
    · have hv' : v' = v := by
        rw [hle, if_pos]
        split at hB <;> omega
      subst hv'
      rw [if_neg qv]
      have hvn : v' ≠ -1 := fun e => qv (Or.inl e)
      have ih := x_st hx h4 hc hn hz w1 w2 hb hX hO hnl hbn hbx m (t + 1) (t : Int) v' I2 _ (by omega) hR1 g2 (by omega) (by omega) (fun _ => hvn)
      rw [if_neg hvn] at ih
      simp (disch := first | assumption | omega) only [am_i_add, am_i_sub, am_i_mul, am_ok_i, am_i_cl, n_lt, n_le, n_eq, n_lt0, n_le0, n_0lt, n_0le, n_eq0, ne_eq, ↓reduceIte, not_true_eq_false, not_false_eq_true, and_true, true_and, and_false, false_and, eq_T, eq_F, lt_T, lt_F, le_T, le_F, qn_T, qn_F, and_F, b01_T, b01_F, e_isIn, Int32.toInt_toInt64, am_i_toInt, am_l_toInt, Int.toNat_natCast, Int.reduceToNat, Int.reduceAdd, Int.reduceSub, Int.reduceMul, Int.reduceNeg, Nat.reduceAdd, Nat.reduceMul, Nat.add_zero, Nat.mul_zero, Nat.zero_add, am_zb0, am_zb1, ↓Bool.cond_decide, cond_true, cond_false, ↓am_let_s, ↓bI_p, bIJ_s, ↓bV_p, bVJ_s, ↓bL_p, bLJ_s, ly_cf, Bool.and_self, Bool.and_true, sg_X11_strung_96, am_i_s]
      exact ih
theorem m_st {I0 : tI} {R : tR} {z : Nat} {w : Int} {s : Nat → bt} (hm : st_Rm R) (hX : cxM last wd nb nt wf fm I0) (hb : b < nb) (hz : z ≤ 30) (hhz : h + z ≤ 999) (w1 : 0 ≤ w) (w2 : w ≤ 1) (h58 : I0 64 58 = am_i 0) (hr0 : rwM nb nt last h s I0) (hnl : (s b).mi ≠ last) : ∀ (m t : Nat) (C S : Int) (x5 : Int) (I : tI) (J : tJ), t + m = 100 → thM I0 I → (∀ k, I 103 k = I0 103 k) → (C = -1 ∨ 0 ≤ C ∧ C < 100) → (S = -1 ∨ 1 ≤ S ∧ S ≤ z) → (C ≠ -1 ↔ S ≠ -1) → (C ≠ -1 → x5 = S) → Wp (fun r M => ∃ I' J', r = some (.int (am_i (stA' w (beF (fun t => laF last wf fm wd (nt b) z 0 (tiS (s b) t)) m t C S)))) ∧ M = (I', J', R, 138) ∧ frJ J J' ∧ ∀ q k, ¬ sC q k → I' q k = I0 q k) (am_E (d + 9) 235 52 [(0, .ref 64), (1, .int (am_i b)), (2, .int (am_i z)), (3, .int (am_i w)), (4, .int (am_i C)), (5, .int (am_i x5)), (6, .int (am_i t))] [] (I, J, R, 138))
  | 0, t, C, S, x5, I, J, ht, hT, hI, hC, hS, hCS, h5 => by
    rw [sg_X12_strung_52]
    show Wp (fun r M => ∃ I' J', r = some (.int (am_i (stA' w (C, S)))) ∧ _) _
    simp (disch := first | assumption | omega) only [am_i_add, am_i_sub, am_i_mul, am_ok_i, am_i_cl, n_lt, n_le, n_eq, n_lt0, n_le0, n_0lt, n_0le, n_eq0, ne_eq, ↓reduceIte, not_true_eq_false, not_false_eq_true, and_true, true_and, and_false, false_and, eq_T, eq_F, lt_T, lt_F, le_T, le_F, qn_T, qn_F, and_F, b01_T, b01_F, e_isIn, Int32.toInt_toInt64, am_i_toInt, am_l_toInt, Int.toNat_natCast, Int.reduceToNat, Int.reduceAdd, Int.reduceSub, Int.reduceMul, Int.reduceNeg, Nat.reduceAdd, Nat.reduceMul, Nat.add_zero, Nat.mul_zero, Nat.zero_add, am_zb0, am_zb1, ↓Bool.cond_decide, cond_true, cond_false, ↓am_let_s, ↓bI_p, bIJ_s, ↓bV_p, bVJ_s, ↓bL_p, bLJ_s, ly_cf, Bool.and_self, Bool.and_true]
    refine Wp_V (m_back hm hT h58) ?_
    rintro _ _ ⟨I', rfl, rfl, e5⟩
    refine ⟨rfl, ?_⟩
    by_cases q : C = -1
    · simp (disch := first | assumption | omega) only [am_i_add, am_i_sub, am_i_mul, am_ok_i, am_i_cl, n_lt, n_le, n_eq, n_lt0, n_le0, n_0lt, n_0le, n_eq0, ne_eq, ↓reduceIte, not_true_eq_false, not_false_eq_true, and_true, true_and, and_false, false_and, eq_T, eq_F, lt_T, lt_F, le_T, le_F, qn_T, qn_F, and_F, b01_T, b01_F, e_isIn, Int32.toInt_toInt64, am_i_toInt, am_l_toInt, Int.toNat_natCast, Int.reduceToNat, Int.reduceAdd, Int.reduceSub, Int.reduceMul, Int.reduceNeg, Nat.reduceAdd, Nat.reduceMul, Nat.add_zero, Nat.mul_zero, Nat.zero_add, am_zb0, am_zb1, ↓Bool.cond_decide, cond_true, cond_false, ↓am_let_s, ↓bI_p, bIJ_s, ↓bV_p, bVJ_s, ↓bL_p, bLJ_s, ly_cf, Bool.and_self, Bool.and_true]
      exact Wp_r ⟨I', J, by unfold stA'; rw [if_pos q], rfl, frJ_r _, e5⟩
    · by_cases q0 : w = 0
      · simp (disch := first | assumption | omega) only [am_i_add, am_i_sub, am_i_mul, am_ok_i, am_i_cl, n_lt, n_le, n_eq, n_lt0, n_le0, n_0lt, n_0le, n_eq0, ne_eq, ↓reduceIte, not_true_eq_false, not_false_eq_true, and_true, true_and, and_false, false_and, eq_T, eq_F, lt_T, lt_F, le_T, le_F, qn_T, qn_F, and_F, b01_T, b01_F, e_isIn, Int32.toInt_toInt64, am_i_toInt, am_l_toInt, Int.toNat_natCast, Int.reduceToNat, Int.reduceAdd, Int.reduceSub, Int.reduceMul, Int.reduceNeg, Nat.reduceAdd, Nat.reduceMul, Nat.add_zero, Nat.mul_zero, Nat.zero_add, am_zb0, am_zb1, ↓Bool.cond_decide, cond_true, cond_false, ↓am_let_s, ↓bI_p, bIJ_s, ↓bV_p, bVJ_s, ↓bL_p, bLJ_s, ly_cf, Bool.and_self, Bool.and_true]
        exact Wp_r ⟨I', J, by unfold stA'; rw [if_neg q, if_pos q0], rfl, frJ_r _, e5⟩
      · simp (disch := first | assumption | omega) only [am_i_add, am_i_sub, am_i_mul, am_ok_i, am_i_cl, n_lt, n_le, n_eq, n_lt0, n_le0, n_0lt, n_0le, n_eq0, ne_eq, ↓reduceIte, not_true_eq_false, not_false_eq_true, and_true, true_and, and_false, false_and, eq_T, eq_F, lt_T, lt_F, le_T, le_F, qn_T, qn_F, and_F, b01_T, b01_F, e_isIn, Int32.toInt_toInt64, am_i_toInt, am_l_toInt, Int.toNat_natCast, Int.reduceToNat, Int.reduceAdd, Int.reduceSub, Int.reduceMul, Int.reduceNeg, Nat.reduceAdd, Nat.reduceMul, Nat.add_zero, Nat.mul_zero, Nat.zero_add, am_zb0, am_zb1, ↓Bool.cond_decide, cond_true, cond_false, ↓am_let_s, ↓bI_p, bIJ_s, ↓bV_p, bVJ_s, ↓bL_p, bLJ_s, ly_cf, Bool.and_self, Bool.and_true]
        exact Wp_r ⟨I', J, by unfold stA'; rw [if_neg q, if_neg q0, if_pos (by omega), h5 q], rfl, frJ_r _, e5⟩
  | m + 1, t, C, S, x5, I, J, ht, hT, hI, hC, hS, hCS, h5 => by
    have h6 := hX.2.2.2.2.2.1
    have n2 : ((2 : Int) + 11 * (b : Int)).toNat = 2 + 11 * b := by omega
    obtain ⟨hh, h0, hr⟩ := hr0
    rw [sg_X12_strung_52]
    simp (disch := first | assumption | omega) only [rM hm, ly_csm, ly_cam, ly_cf, ly_kd, ly_ln, ↓Bool.cond_decide, cond_true, cond_false, ↓bI_p, ↓bV_p, ↓bL_p, bIJ_s, bVJ_s, bLJ_s, ↓am_let_s, Nat.blt, Nat.ble, Bool.and_true, Bool.true_and, Bool.and_self, Int.cast_ofNat_Int, am_i_add, am_i_sub, am_i_mul, am_ok_i, am_i_cl, n_lt, n_le, n_eq, n_lt0, n_le0, n_0lt, n_0le, n_eq0, ne_eq, ↓reduceIte, not_true_eq_false, not_false_eq_true, and_true, true_and, and_false, false_and, eq_T, eq_F, lt_T, lt_F, le_T, le_F, qn_T, qn_F, and_F, b01_T, b01_F, e_isIn, Int32.toInt_toInt64, am_i_toInt, am_l_toInt, Int.toNat_natCast, Int.reduceToNat, Int.reduceAdd, Int.reduceSub, Int.reduceMul, Int.reduceNeg, Nat.reduceAdd, Nat.reduceMul, Nat.add_zero, Nat.mul_zero, Nat.zero_add, am_zb0, am_zb1, ↓Bool.cond_decide, cond_true, cond_false, ↓am_let_s, ↓bI_p, bIJ_s, ↓bV_p, bVJ_s, ↓bL_p, bLJ_s, ly_cf, Bool.and_self, Bool.and_true, n2]
    have hT' : thM I0 (am_up I 103 (2 + 11 * b) (am_i t)) := by
      obtain ⟨k1, k2, k3, k4⟩ := hT
      exact ⟨by rw [am_up_o (by omega)]; exact k1, fun k hk => by rw [am_up_o (by omega)]; exact k2 k hk, fun k hk => by rw [am_up_o (by omega)]; exact k3 k hk, fun q k a1 a2 a3 => by rw [am_up_o (by omega)]; exact k4 q k a1 a2 a3⟩
    have hr1 : rwM nb nt last h (upS s b (tiS (s b) t)) (am_up I 103 (2 + 11 * b) (am_i t)) := by
      refine ⟨hh, by rw [am_up_o (by omega), hI]; exact h0, fun j hj => ?_⟩
      obtain ⟨q1, q2⟩ := hr j hj
      have n6 := (hX.2.2.2.2.2.2.1 j hj).1
      obtain ⟨y1, y2, y3, y4, y5, y6⟩ := bX_i.mp q2
      by_cases e : j = b
      · subst e
        rw [upS_e]
        exact ⟨tiS_ok q1 (by omega), bX_i.mpr ⟨by rw [am_up_o (by omega), hI]; exact y1, am_up_e, by rw [am_up_o (by omega), hI]; exact y3, by rw [am_up_o (by omega), hI]; exact y4, by rw [am_up_o (by omega), hI]; exact y5, fun k hk => by rw [am_up_o (by omega), hI]; exact y6 k hk⟩⟩
      · rw [upS_o e]
        exact ⟨q1, bX_i.mpr ⟨by rw [am_up_o (by omega), hI]; exact y1, by rw [am_up_o (by omega), hI]; exact y2, by rw [am_up_o (by omega), hI]; exact y3, by rw [am_up_o (by omega), hI]; exact y4, by rw [am_up_o (by omega), hI]; exact y5, fun k hk => by rw [am_up_o (by omega), hI]; exact y6 k hk⟩⟩
    refine Wp_I (Wp_e (sg_X12_landsIn_0 _ _ _ _ _) (m_li (d := d) (z := z) hm hX hb (by omega) z 0 h (upS s b (tiS (s b) t)) (am_up I 103 (2 + 11 * b) (am_i t)) J (by omega) (by omega) hT' hr1)) ?_
    rintro _ _ ⟨I2, J2, rfl, rfl, hj2, hT2, e2⟩
    refine ⟨_, rfl, ?_⟩
    rw [upS_e]
    have h1 := laF_1 (last := last) (wf := wf) (fm := fm) (u := wd) (n := nt b) (m := z) (x := tiS (s b) t) hnl
    show Wp (fun r M => ∃ I' J', r = some (.int (am_i (stA' w (if laF last wf fm wd (nt b) z 0 (tiS (s b) t) = -1 ∨ (S ≠ -1 ∧ S ≤ laF last wf fm wd (nt b) z 0 (tiS (s b) t)) then beF (fun t => laF last wf fm wd (nt b) z 0 (tiS (s b) t)) m (t + 1) C S else beF (fun t => laF last wf fm wd (nt b) z 0 (tiS (s b) t)) m (t + 1) t (laF last wf fm wd (nt b) z 0 (tiS (s b) t)))))) ∧ M = (I', J', R, 138) ∧ frJ J J' ∧ ∀ q k, ¬ sC q k → I' q k = I0 q k) _
    generalize laF last wf fm wd (nt b) z 0 (tiS (s b) t) = v at h1 ⊢
    have fin : ∀ C' S' x5' : Int, (C' = -1 ∨ 0 ≤ C' ∧ C' < 100) → (S' = -1 ∨ 1 ≤ S' ∧ S' ≤ z) → (C' ≠ -1 ↔ S' ≠ -1) → (C' ≠ -1 → x5' = S') → Wp (fun r M => ∃ I' J', r = some (.int (am_i (stA' w (beF (fun t => laF last wf fm wd (nt b) z 0 (tiS (s b) t)) m (t + 1) C' S')))) ∧ M = (I', J', R, 138) ∧ frJ J J' ∧ ∀ q k, ¬ sC q k → I' q k = I0 q k) (am_E (d + 9) 235 52 [(0, .ref 64), (1, .int (am_i b)), (2, .int (am_i z)), (3, .int (am_i w)), (4, .int (am_i C')), (5, .int (am_i x5')), (6, .int (am_i ((t + 1 : Nat) : Int)))] [] (I2, J2, R, 138)) := by
      intro C' S' x5' a1 a2 a3 a4
      refine Wp_m (m_st hm hX hb hz hhz w1 w2 h58 ⟨hh, h0, hr⟩ hnl m (t + 1) C' S' x5' I2 J2 (by omega) hT2 e2 a1 a2 a3 a4) ?_
      rintro _ _ ⟨I3, J3, rfl, rfl, g1, g2⟩
      exact ⟨I3, J3, rfl, rfl, frJ_t hj2 g1, g2⟩
    by_cases qv : v = -1
    · rw [if_pos (Or.inl qv)]
      simp (disch := first | assumption | omega) only [am_i_add, am_i_sub, am_i_mul, am_ok_i, am_i_cl, n_lt, n_le, n_eq, n_lt0, n_le0, n_0lt, n_0le, n_eq0, ne_eq, ↓reduceIte, not_true_eq_false, not_false_eq_true, and_true, true_and, and_false, false_and, eq_T, eq_F, lt_T, lt_F, le_T, le_F, qn_T, qn_F, and_F, b01_T, b01_F, e_isIn, Int32.toInt_toInt64, am_i_toInt, am_l_toInt, Int.toNat_natCast, Int.reduceToNat, Int.reduceAdd, Int.reduceSub, Int.reduceMul, Int.reduceNeg, Nat.reduceAdd, Nat.reduceMul, Nat.add_zero, Nat.mul_zero, Nat.zero_add, am_zb0, am_zb1, ↓Bool.cond_decide, cond_true, cond_false, ↓am_let_s, ↓bI_p, bIJ_s, ↓bV_p, bVJ_s, ↓bL_p, bLJ_s, ly_cf, Bool.and_self, Bool.and_true, sg_X12_strung_110, am_i_s]
      exact fin C S x5 hC hS hCS h5
    · by_cases qc : C = -1
      · have qS : S = -1 := by
          apply Classical.byContradiction
          exact fun e => hCS.mpr e qc
        rw [if_neg (by omega)]
        simp (disch := first | assumption | omega) only [am_i_add, am_i_sub, am_i_mul, am_ok_i, am_i_cl, n_lt, n_le, n_eq, n_lt0, n_le0, n_0lt, n_0le, n_eq0, ne_eq, ↓reduceIte, not_true_eq_false, not_false_eq_true, and_true, true_and, and_false, false_and, eq_T, eq_F, lt_T, lt_F, le_T, le_F, qn_T, qn_F, and_F, b01_T, b01_F, e_isIn, Int32.toInt_toInt64, am_i_toInt, am_l_toInt, Int.toNat_natCast, Int.reduceToNat, Int.reduceAdd, Int.reduceSub, Int.reduceMul, Int.reduceNeg, Nat.reduceAdd, Nat.reduceMul, Nat.add_zero, Nat.mul_zero, Nat.zero_add, am_zb0, am_zb1, ↓Bool.cond_decide, cond_true, cond_false, ↓am_let_s, ↓bI_p, bIJ_s, ↓bV_p, bVJ_s, ↓bL_p, bLJ_s, ly_cf, Bool.and_self, Bool.and_true, sg_X12_strung_102, sg_X12_strung_110, am_i_s]
        exact fin t v v (by omega) (by omega) (by omega) (fun _ => rfl)
      · have qS := hCS.mp qc
        have e5 := h5 qc
        subst e5
        by_cases q3 : v < x5
        · rw [if_neg (by omega)]
          simp (disch := first | assumption | omega) only [am_i_add, am_i_sub, am_i_mul, am_ok_i, am_i_cl, n_lt, n_le, n_eq, n_lt0, n_le0, n_0lt, n_0le, n_eq0, ne_eq, ↓reduceIte, not_true_eq_false, not_false_eq_true, and_true, true_and, and_false, false_and, eq_T, eq_F, lt_T, lt_F, le_T, le_F, qn_T, qn_F, and_F, b01_T, b01_F, e_isIn, Int32.toInt_toInt64, am_i_toInt, am_l_toInt, Int.toNat_natCast, Int.reduceToNat, Int.reduceAdd, Int.reduceSub, Int.reduceMul, Int.reduceNeg, Nat.reduceAdd, Nat.reduceMul, Nat.add_zero, Nat.mul_zero, Nat.zero_add, am_zb0, am_zb1, ↓Bool.cond_decide, cond_true, cond_false, ↓am_let_s, ↓bI_p, bIJ_s, ↓bV_p, bVJ_s, ↓bL_p, bLJ_s, ly_cf, Bool.and_self, Bool.and_true, sg_X12_strung_102, sg_X12_strung_110, am_i_s]
          exact fin t v v (by omega) (by omega) (by omega) (fun _ => rfl)
        · rw [if_pos (Or.inr ⟨qS, by omega⟩)]
          simp (disch := first | assumption | omega) only [am_i_add, am_i_sub, am_i_mul, am_ok_i, am_i_cl, n_lt, n_le, n_eq, n_lt0, n_le0, n_0lt, n_0le, n_eq0, ne_eq, ↓reduceIte, not_true_eq_false, not_false_eq_true, and_true, true_and, and_false, false_and, eq_T, eq_F, lt_T, lt_F, le_T, le_F, qn_T, qn_F, and_F, b01_T, b01_F, e_isIn, Int32.toInt_toInt64, am_i_toInt, am_l_toInt, Int.toNat_natCast, Int.reduceToNat, Int.reduceAdd, Int.reduceSub, Int.reduceMul, Int.reduceNeg, Nat.reduceAdd, Nat.reduceMul, Nat.add_zero, Nat.mul_zero, Nat.zero_add, am_zb0, am_zb1, ↓Bool.cond_decide, cond_true, cond_false, ↓am_let_s, ↓bI_p, bIJ_s, ↓bV_p, bVJ_s, ↓bL_p, bLJ_s, ly_cf, Bool.and_self, Bool.and_true, sg_X12_strung_102, sg_X12_strung_110, am_i_s]
          exact fin C x5 x5 hC hS hCS h5
end STRUNG
section PSTR
variable {L : Nat} {xs : Nat → Int32}
theorem p_strung (d : Nat) (a1 a2 a3 : Int32) : pr_I (vV restW L xs) (d + 9) 117 235 [(1, .int a1), (2, .int a2), (3, .int a3)] := by
  refine pW_I ?_
  intro I J R hV
  have hV0 := hV
  obtain ⟨⟨h1, h2, hx, hm, hmu⟩, ht, hr, hf, hp, hs, hd, hw⟩ := hV
  obtain ⟨c, last, nb, nr, nw, wd, sq, K, nt, wf, fm, h4, hc, hB, hN, hF, ⟨h, s, ⟨hh, e66, g0, hbt⟩, ⟨ek, gk, hkp⟩, hKh⟩, hA, hX⟩ := hw
  obtain ⟨b1, b2, b3, b4, b5, b6, b7, b8, i0, m0, i1, m1, i2, m2, i3, m3, i4, m4, i5, m5, mS, mT, hnt, hky, hwf⟩ := hB
  obtain ⟨z, z1, z2, rfl⟩ := i32_z a1
  obtain ⟨y, y1, y2, rfl⟩ := i32_z a2
  obtain ⟨w, w1, w2, rfl⟩ := i32_z a3
  have xB := fun d => e_xisBoat d (am_i z) nb c I J R hx h4 hc b3 i1
  have xT := fun d => x_try (d := d) (J := J) (z := y) hx hh e66 y1 y2
  by_cases hq : (0 ≤ z ∧ z < nb) ∧ (1 ≤ y ∧ y ≤ (min 30 (999 - h) : Nat)) ∧ (s z.toNat).mi ≠ last
  · obtain ⟨b, rfl⟩ : ∃ n : Nat, z = n := ⟨z.toNat, by omega⟩
    obtain ⟨v, rfl⟩ : ∃ n : Nat, y = n := ⟨y.toNat, by omega⟩
    have hb : b < nb := by omega
    have hnl : (s b).mi ≠ last := hq.2.2
    have hl0 : last ≠ 0 := fun e => by have := (b8 e).1; omega
    obtain ⟨n6, n1, n2⟩ := hnt b hb
    obtain ⟨hO, hb1, hb2⟩ := hbt b hb
    have hXx : cxX c last wd wf fm I := ⟨i0, b2, i4, b6, fun m hm => ⟨(hwf m hm).1, (hwf m hm).2.1⟩, fun f hf => ⟨(hF hl0 f hf).1, (hF hl0 f hf).2.2⟩⟩
    have hXm : cxM last wd nb nt wf fm I := ⟨m0, b2, m4, b6, m1, b3, fun b hb => ⟨(hnt b hb).1, (hnt b hb).2.2⟩, fun m hm => (hwf m hm).2.2, fun f hf => ⟨(hF hl0 f hf).2.1, (hF hl0 f hf).2.2⟩⟩
    have hRM : rwM nb nt last h s I := ⟨hh, g0, fun b hb => ⟨(hbt b hb).1, (hbt b hb).2.2⟩⟩
    have hnt6 : ∀ b, b < nb → nt b ≤ 6 := fun b hb => (hnt b hb).1
    have hR1 : rR R (am_up R 35 1 c) := rR_u (rR_r hmu) hc (Or.inl rfl)
    have hx1 := rR_x hR1 hx
    have hm1 := rR_m hR1 hm
    have h41 : am_up R 35 1 c 3 4 = c := h4
    have xL := fun d => e_xLanded (d := d) (J := J) (I := I) (b := (b : Int)) (v := (s b).mi) (w := last) hx h4 hc (by omega) (by omega) (by rw [Int.toNat_natCast]; exact hb1.1) i0 (by have := hO.1; omega) b2
    refine ⟨am_i (stA' w (beF (fun t => laF last wf fm wd (nt b) v 0 (tiS (s b) t)) 100 0 (-1) (-1))), ?_⟩
    rw [sg_X11_strung_0]
    simp (disch := first | assumption | omega) only [rX hx, ly_csx, ly_cax, ly_cf, ly_kd, ly_ln, ↓Bool.cond_decide, cond_true, cond_false, ↓bI_p, ↓bV_p, ↓bL_p, bIJ_s, bVJ_s, bLJ_s, ↓am_let_s, Nat.blt, Nat.ble, Bool.and_true, Bool.true_and, Bool.and_self, Int.cast_ofNat_Int, am_i_add, am_i_sub, am_i_mul, am_ok_i, am_i_cl, n_lt, n_le, n_eq, n_lt0, n_le0, n_0lt, n_0le, n_eq0, ne_eq, ↓reduceIte, not_true_eq_false, not_false_eq_true, and_true, true_and, and_false, false_and, eq_T, eq_F, lt_T, lt_F, le_T, le_F, qn_T, qn_F, and_F, b01_T, b01_F, e_isIn, Int32.toInt_toInt64, am_i_toInt, am_l_toInt, Int.toNat_natCast, Int.reduceToNat, Int.reduceAdd, Int.reduceSub, Int.reduceMul, Int.reduceNeg, Nat.reduceAdd, Nat.reduceMul, Nat.add_zero, Nat.mul_zero, Nat.zero_add, am_zb0, am_zb1, h4, rC hx hc, xB, xT, xL, b01_t hq.1, b01_t hq.2.1, b01_f hnl]
    have lp := x_st (d := d + 1) (J := J) (R0 := R) (I0 := I) (x := s b) (z := v) (w := w) (last := last) (wd := wd) (wf := wf) (fm := fm) hx h4 hc n6 (by omega) w1 w2 (show b < 6 by omega) hXx hO hnl n1 hb1 100 0 (-1) (-1) I R (by omega) (rR_r hmu) (fun _ _ _ => rfl) (Or.inl rfl) (Or.inl rfl) (fun e => absurd rfl e)
    refine Wp_m lp ?_
    rintro _ _ ⟨I2, R2, rfl, rfl, hR2, g2⟩
    refine ⟨I2, J, R2, rfl, rfl, funext (fun k => g2 1 k (by omega)), hR2.1 _ _ (by omega), ?_⟩
    have hm2 := rR_m hR2 hm
    have hXm2 : cxM last wd nb nt wf fm I2 := cxM_c (fun q k a1 a2 => g2 q k (by omega)) hXm
    have mB := fun d => e_misBoat d (am_i b) nb I2 J R2 hm2 b3 hXm2.2.2.2.2.1
    have mA : ∀ d, am_E (d + 2) 215 0 [(0, .ref 64), (1, .int (am_i v)), (2, .int (am_i 1)), (3, .int (am_i 30))] [] (I2, J, R2, 138) = _ := fun d => m_isAhead (d := d) (J := J) (z := (v : Int)) (lo := 1) (hi := 30) (last := last) hm2 hh (by rw [g2 _ _ (by omega)]; exact g0) (by rw [g2 _ _ (by omega)]; exact mS) y1 y2 (by omega) (by omega)
    have mAt : last ≠ 0 ∧ (((1 : Nat) : Int)) ≤ (v : Int) ∧ (v : Int) ≤ ((30 : Nat) : Int) ∧ (h : Int) + v ≤ 999 := ⟨hl0, by omega, by omega, by omega⟩
    have mL := fun d => e_mLanded (d := d) (I := I2) (J := J) (b := (b : Int)) (v := (s b).mi) (w := last) hm2 (by omega) (by omega) (by rw [Int.toNat_natCast, g2 _ _ (by omega)]; exact hb2.1) hXm2.1 (by have := hO.1; omega) b2
    rw [sg_X12_strung_0]
    by_cases hw : 0 ≤ w ∧ w ≤ 1
    · simp (disch := first | assumption | omega) only [ly_csm, am_i_add, am_i_sub, am_i_mul, am_ok_i, am_i_cl, n_lt, n_le, n_eq, n_lt0, n_le0, n_0lt, n_0le, n_eq0, ne_eq, ↓reduceIte, not_true_eq_false, not_false_eq_true, and_true, true_and, and_false, false_and, eq_T, eq_F, lt_T, lt_F, le_T, le_F, qn_T, qn_F, and_F, b01_T, b01_F, e_isIn, Int32.toInt_toInt64, am_i_toInt, am_l_toInt, Int.toNat_natCast, Int.reduceToNat, Int.reduceAdd, Int.reduceSub, Int.reduceMul, Int.reduceNeg, Nat.reduceAdd, Nat.reduceMul, Nat.add_zero, Nat.mul_zero, Nat.zero_add, am_zb0, am_zb1, ↓Bool.cond_decide, cond_true, cond_false, ↓am_let_s, ↓bI_p, bIJ_s, ↓bV_p, bVJ_s, ↓bL_p, bLJ_s, ly_cf, Bool.and_self, Bool.and_true, rM hm2, mB, mA, mL, b01_t hq.1, b01_t mAt, b01_f hnl]
      refine Wp_V (m_aside hm2) ?_
      rintro _ _ ⟨I3, rfl, rfl, ht3, e3⟩
      refine ⟨rfl, ?_⟩
      have hr2 : rwM nb nt last h s I2 := rwM_c hRM b3 hnt6 (fun k hk => g2 _ _ (by omega))
      have ml := m_st (d := d) (I0 := I2) (R := R2) (z := v) (w := w) (s := s) hm2 hXm2 hb (by omega) (by omega) hw.1 hw.2 (by rw [g2 _ _ (by omega)]; exact mT) hr2 hnl 100 0 (-1) (-1) 0 I3 J (by omega) ht3 e3 (Or.inl rfl) (Or.inl rfl) (by omega) (fun e => absurd rfl e)
      refine Wp_m ml ?_
      rintro _ _ ⟨I5, J5, rfl, rfl, hj5, e5⟩
      refine ⟨I5, J5, _, rfl, rfl, vV_s hV0 (fun q k e => ?_) (fun q k e1 e2 => hj5 q k e1) hR2⟩
      rw [e5 q k e, g2 q k (by unfold sC at e; omega)]
    · have val : stA' w (beF (fun t => laF last wf fm wd (nt b) v 0 (tiS (s b) t)) 100 0 (-1) (-1)) = -1 := by
        unfold stA'
        rw [if_neg (show ¬ w = 0 by omega), if_neg (show ¬ w = 1 by omega)]
        split <;> rfl
      simp (disch := first | assumption | omega) only [ly_csm, am_i_add, am_i_sub, am_i_mul, am_ok_i, am_i_cl, n_lt, n_le, n_eq, n_lt0, n_le0, n_0lt, n_0le, n_eq0, ne_eq, ↓reduceIte, not_true_eq_false, not_false_eq_true, and_true, true_and, and_false, false_and, eq_T, eq_F, lt_T, lt_F, le_T, le_F, qn_T, qn_F, and_F, b01_T, b01_F, e_isIn, Int32.toInt_toInt64, am_i_toInt, am_l_toInt, Int.toNat_natCast, Int.reduceToNat, Int.reduceAdd, Int.reduceSub, Int.reduceMul, Int.reduceNeg, Nat.reduceAdd, Nat.reduceMul, Nat.add_zero, Nat.mul_zero, Nat.zero_add, am_zb0, am_zb1, ↓Bool.cond_decide, cond_true, cond_false, ↓am_let_s, ↓bI_p, bIJ_s, ↓bV_p, bVJ_s, ↓bL_p, bLJ_s, ly_cf, Bool.and_self, Bool.and_true, rM hm2, mB, mA, b01_t hq.1, b01_t mAt, sg_X12_strung_37]
      exact Wp_r ⟨I2, J, _, by rw [val], rfl, vV_s hV0 (fun q k e => g2 q k (by unfold sC at e; omega)) (fun _ _ _ _ => rfl) hR2⟩
  · refine ⟨am_i (-1), ?_⟩
    have mB := fun d => e_misBoat d (am_i z) nb I J R hm b3 m1
    have mA : ∀ d, am_E (d + 2) 215 0 [(0, .ref 64), (1, .int (am_i y)), (2, .int (am_i 1)), (3, .int (am_i 30))] [] (I, J, R, 138) = _ := fun d => m_isAhead (d := d) (J := J) (z := y) (lo := 1) (hi := 30) (last := last) hm hh g0 mS y1 y2 (by omega) (by omega)
    have cl : am_E (d + 9) 117 0 [(0, .ref 3), (1, .int (am_i z)), (2, .int (am_i y)), (3, .int (am_i w))] [] (I, J, R, 138) = some (some (.int (am_i (-1))), (I, J, R, 138)) := by
      rw [sg_X11_strung_0]
      by_cases h1 : 0 ≤ z ∧ z < nb
      · by_cases h2 : 1 ≤ y ∧ y ≤ (min 30 (999 - h) : Nat)
        · have h3 : (s z.toNat).mi = last := by
            apply Classical.byContradiction
            exact fun e => hq ⟨h1, h2, e⟩
          obtain ⟨hO, hb1, hb2⟩ := hbt z.toNat (by omega)
          have xL := fun d => e_xLanded (d := d) (J := J) (I := I) (b := z) (v := (s z.toNat).mi) (w := last) hx h4 hc (by omega) (by omega) hb1.1 i0 (by omega) b2
          simp (disch := first | assumption | omega) only [rX hx, ly_csx, ly_cax, ly_cf, ly_kd, ly_ln, ↓Bool.cond_decide, cond_true, cond_false, ↓bI_p, ↓bV_p, ↓bL_p, bIJ_s, bVJ_s, bLJ_s, ↓am_let_s, Nat.blt, Nat.ble, Bool.and_true, Bool.true_and, Bool.and_self, Int.cast_ofNat_Int, am_i_add, am_i_sub, am_i_mul, am_ok_i, am_i_cl, n_lt, n_le, n_eq, n_lt0, n_le0, n_0lt, n_0le, n_eq0, ne_eq, ↓reduceIte, not_true_eq_false, not_false_eq_true, and_true, true_and, and_false, false_and, eq_T, eq_F, lt_T, lt_F, le_T, le_F, qn_T, qn_F, and_F, b01_T, b01_F, e_isIn, Int32.toInt_toInt64, am_i_toInt, am_l_toInt, Int.toNat_natCast, Int.reduceToNat, Int.reduceAdd, Int.reduceSub, Int.reduceMul, Int.reduceNeg, Nat.reduceAdd, Nat.reduceMul, Nat.add_zero, Nat.mul_zero, Nat.zero_add, am_zb0, am_zb1, h4, rC hx hc, xB, xT, xL, b01_t h1, b01_t h2, b01_t h3, sg_X11_strung_24]
        · simp (disch := first | assumption | omega) only [rX hx, ly_csx, ly_cax, ly_cf, ly_kd, ly_ln, ↓Bool.cond_decide, cond_true, cond_false, ↓bI_p, ↓bV_p, ↓bL_p, bIJ_s, bVJ_s, bLJ_s, ↓am_let_s, Nat.blt, Nat.ble, Bool.and_true, Bool.true_and, Bool.and_self, Int.cast_ofNat_Int, am_i_add, am_i_sub, am_i_mul, am_ok_i, am_i_cl, n_lt, n_le, n_eq, n_lt0, n_le0, n_0lt, n_0le, n_eq0, ne_eq, ↓reduceIte, not_true_eq_false, not_false_eq_true, and_true, true_and, and_false, false_and, eq_T, eq_F, lt_T, lt_F, le_T, le_F, qn_T, qn_F, and_F, b01_T, b01_F, e_isIn, Int32.toInt_toInt64, am_i_toInt, am_l_toInt, Int.toNat_natCast, Int.reduceToNat, Int.reduceAdd, Int.reduceSub, Int.reduceMul, Int.reduceNeg, Nat.reduceAdd, Nat.reduceMul, Nat.add_zero, Nat.mul_zero, Nat.zero_add, am_zb0, am_zb1, h4, rC hx hc, xB, xT, b01_t h1, b01_f h2, sg_X11_strung_24]
      · simp (disch := first | assumption | omega) only [rX hx, ly_csx, ly_cax, ly_cf, ly_kd, ly_ln, ↓Bool.cond_decide, cond_true, cond_false, ↓bI_p, ↓bV_p, ↓bL_p, bIJ_s, bVJ_s, bLJ_s, ↓am_let_s, Nat.blt, Nat.ble, Bool.and_true, Bool.true_and, Bool.and_self, Int.cast_ofNat_Int, am_i_add, am_i_sub, am_i_mul, am_ok_i, am_i_cl, n_lt, n_le, n_eq, n_lt0, n_le0, n_0lt, n_0le, n_eq0, ne_eq, ↓reduceIte, not_true_eq_false, not_false_eq_true, and_true, true_and, and_false, false_and, eq_T, eq_F, lt_T, lt_F, le_T, le_F, qn_T, qn_F, and_F, b01_T, b01_F, e_isIn, Int32.toInt_toInt64, am_i_toInt, am_l_toInt, Int.toNat_natCast, Int.reduceToNat, Int.reduceAdd, Int.reduceSub, Int.reduceMul, Int.reduceNeg, Nat.reduceAdd, Nat.reduceMul, Nat.add_zero, Nat.mul_zero, Nat.zero_add, am_zb0, am_zb1, h4, rC hx hc, xB, b01_f h1, sg_X11_strung_24]
    refine Wp_e cl (Wp_r ⟨I, J, R, rfl, rfl, rfl, rfl, ?_⟩)
    have cm : am_E (d + 9) 235 0 [(0, .ref 64), (1, .int (am_i z)), (2, .int (am_i y)), (3, .int (am_i w))] [] (I, J, R, 138) = some (some (.int (am_i (-1))), (I, J, R, 138)) := by
      rw [sg_X12_strung_0]
      by_cases h1 : 0 ≤ z ∧ z < nb
      · by_cases ma : last ≠ 0 ∧ (((1 : Nat) : Int)) ≤ y ∧ y ≤ ((30 : Nat) : Int) ∧ (h : Int) + y ≤ 999
        · by_cases hw : 0 ≤ w ∧ w ≤ 1
          · have h3 : (s z.toNat).mi = last := by
              apply Classical.byContradiction
              exact fun e => hq ⟨h1, by omega, e⟩
            obtain ⟨hO, hb1, hb2⟩ := hbt z.toNat (by omega)
            have mL := fun d => e_mLanded (d := d) (I := I) (J := J) (b := z) (v := (s z.toNat).mi) (w := last) hm (by omega) (by omega) hb2.1 m0 (by omega) b2
            simp (disch := first | assumption | omega) only [rM hm, ly_csm, ly_cam, ly_cf, ly_kd, ly_ln, ↓Bool.cond_decide, cond_true, cond_false, ↓bI_p, ↓bV_p, ↓bL_p, bIJ_s, bVJ_s, bLJ_s, ↓am_let_s, Nat.blt, Nat.ble, Bool.and_true, Bool.true_and, Bool.and_self, Int.cast_ofNat_Int, am_i_add, am_i_sub, am_i_mul, am_ok_i, am_i_cl, n_lt, n_le, n_eq, n_lt0, n_le0, n_0lt, n_0le, n_eq0, ne_eq, ↓reduceIte, not_true_eq_false, not_false_eq_true, and_true, true_and, and_false, false_and, eq_T, eq_F, lt_T, lt_F, le_T, le_F, qn_T, qn_F, and_F, b01_T, b01_F, e_isIn, Int32.toInt_toInt64, am_i_toInt, am_l_toInt, Int.toNat_natCast, Int.reduceToNat, Int.reduceAdd, Int.reduceSub, Int.reduceMul, Int.reduceNeg, Nat.reduceAdd, Nat.reduceMul, Nat.add_zero, Nat.mul_zero, Nat.zero_add, am_zb0, am_zb1, mB, mA, mL, b01_t h1, b01_t ma, b01_t h3, sg_X12_strung_37]
          · simp (disch := first | assumption | omega) only [rM hm, ly_csm, ly_cam, ly_cf, ly_kd, ly_ln, ↓Bool.cond_decide, cond_true, cond_false, ↓bI_p, ↓bV_p, ↓bL_p, bIJ_s, bVJ_s, bLJ_s, ↓am_let_s, Nat.blt, Nat.ble, Bool.and_true, Bool.true_and, Bool.and_self, Int.cast_ofNat_Int, am_i_add, am_i_sub, am_i_mul, am_ok_i, am_i_cl, n_lt, n_le, n_eq, n_lt0, n_le0, n_0lt, n_0le, n_eq0, ne_eq, ↓reduceIte, not_true_eq_false, not_false_eq_true, and_true, true_and, and_false, false_and, eq_T, eq_F, lt_T, lt_F, le_T, le_F, qn_T, qn_F, and_F, b01_T, b01_F, e_isIn, Int32.toInt_toInt64, am_i_toInt, am_l_toInt, Int.toNat_natCast, Int.reduceToNat, Int.reduceAdd, Int.reduceSub, Int.reduceMul, Int.reduceNeg, Nat.reduceAdd, Nat.reduceMul, Nat.add_zero, Nat.mul_zero, Nat.zero_add, am_zb0, am_zb1, mB, mA, b01_t h1, b01_t ma, sg_X12_strung_37]
        · simp (disch := first | assumption | omega) only [rM hm, ly_csm, ly_cam, ly_cf, ly_kd, ly_ln, ↓Bool.cond_decide, cond_true, cond_false, ↓bI_p, ↓bV_p, ↓bL_p, bIJ_s, bVJ_s, bLJ_s, ↓am_let_s, Nat.blt, Nat.ble, Bool.and_true, Bool.true_and, Bool.and_self, Int.cast_ofNat_Int, am_i_add, am_i_sub, am_i_mul, am_ok_i, am_i_cl, n_lt, n_le, n_eq, n_lt0, n_le0, n_0lt, n_0le, n_eq0, ne_eq, ↓reduceIte, not_true_eq_false, not_false_eq_true, and_true, true_and, and_false, false_and, eq_T, eq_F, lt_T, lt_F, le_T, le_F, qn_T, qn_F, and_F, b01_T, b01_F, e_isIn, Int32.toInt_toInt64, am_i_toInt, am_l_toInt, Int.toNat_natCast, Int.reduceToNat, Int.reduceAdd, Int.reduceSub, Int.reduceMul, Int.reduceNeg, Nat.reduceAdd, Nat.reduceMul, Nat.add_zero, Nat.mul_zero, Nat.zero_add, am_zb0, am_zb1, mB, mA, b01_t h1, b01_f ma, sg_X12_strung_37]
      · simp (disch := first | assumption | omega) only [rM hm, ly_csm, ly_cam, ly_cf, ly_kd, ly_ln, ↓Bool.cond_decide, cond_true, cond_false, ↓bI_p, ↓bV_p, ↓bL_p, bIJ_s, bVJ_s, bLJ_s, ↓am_let_s, Nat.blt, Nat.ble, Bool.and_true, Bool.true_and, Bool.and_self, Int.cast_ofNat_Int, am_i_add, am_i_sub, am_i_mul, am_ok_i, am_i_cl, n_lt, n_le, n_eq, n_lt0, n_le0, n_0lt, n_0le, n_eq0, ne_eq, ↓reduceIte, not_true_eq_false, not_false_eq_true, and_true, true_and, and_false, false_and, eq_T, eq_F, lt_T, lt_F, le_T, le_F, qn_T, qn_F, and_F, b01_T, b01_F, e_isIn, Int32.toInt_toInt64, am_i_toInt, am_l_toInt, Int.toNat_natCast, Int.reduceToNat, Int.reduceAdd, Int.reduceSub, Int.reduceMul, Int.reduceNeg, Nat.reduceAdd, Nat.reduceMul, Nat.add_zero, Nat.mul_zero, Nat.zero_add, am_zb0, am_zb1, mB, b01_f h1, sg_X12_strung_37]
    exact Wp_e cm (Wp_r ⟨I, J, R, rfl, rfl, hV0⟩)
end PSTR
