/-! ===== better ===== -/
def scS (x : bt) (k v : Nat) : bt := (x.mi, x.ti, x.ro, x.su, x.pl, fun j => if j = k then v else x.sc j)
def beA (w : Int) (r : Int × Int) : Int := if r.1 = -1 then -1 else if w = 0 then r.1 / 8 else if w = 1 then r.1 % 8 else if w = 2 then r.2 else -1
section BETTER
variable {d : Nat} {J : tJ} {R0 : tR} {c last wd nb n b : Nat} {nt wf : Nat → Nat} {fm : Nat → List tok} {h u : Nat}
theorem scS_ok {x : bt} {k v : Nat} (h : bOK last n x) (hv : v < 8) : bOK last n (scS x k v) := ⟨h.1, h.2.1, h.2.2.1, h.2.2.2.1, h.2.2.2.2.1, h.2.2.2.2.2.1, fun j hj => by
  show (if j = k then v else x.sc j) < 8
  split
  · exact hv
  · exact h.2.2.2.2.2.2 j hj⟩
theorem dv8 {i : Nat} (h : i ≤ 1000) : am_i (i : Int) / am_i 8 = am_i ((i / 8 : Nat) : Int) ∧ am_i ((i : Int) - ((i / 8 : Nat) : Int) * 8) = am_i ((i % 8 : Nat) : Int) := by
  constructor
  · rw [i_div (by omega) (by omega) (by omega) (by omega), Int.tdiv_eq_ediv_of_nonneg (by omega)]
    congr 1
  · congr 1
    omega
theorem beF_0 {v : Nat → Int} (h : ∀ i, v i = 0) : ∀ m i, beF v m i (-1) 0 = (-1, 0)
  | 0, _ => rfl
  | m + 1, i => by
    show (if v i = -1 ∨ ((0 : Int) ≠ -1 ∧ 0 ≤ v i) then beF v m (i + 1) (-1) 0 else beF v m (i + 1) i (v i)) = (-1, 0)
    rw [h i, if_pos (Or.inr ⟨by decide, by decide⟩)]
    exact beF_0 h m (i + 1)
theorem x_be {I0 : tI} {x : bt} {z : Nat} {w : Int} (hx : st_Rx R0) (h4 : R0 3 4 = c) (hc : c = 10 ∨ c = 20) (hn : n ≤ 6) (hz : z ≤ 30) (w1 : -2147483648 ≤ w) (w2 : w < 2147483648) (hb : b < 6) (hX : cxX c last wd wf fm I0) (hO : bOK last n x) (hnl : x.mi ≠ last) (hbn : I0 (c + 4) b = am_i n) (hbx : bX (I0 31) (11 * b) n x) : ∀ (m t : Nat) (C S : Int) (I : tI) (R : tR), t + m = 8 * n → rR R0 R → (∀ q k, ¬ (35 ≤ q ∧ q ≤ 41) → I q k = I0 q k) → (C = -1 ∨ 0 ≤ C ∧ C < 48) → (S = -1 ∨ 1 ≤ S ∧ S ≤ z) → (C ≠ -1 → S ≠ -1) → Wp (fun r M => ∃ I' R', r = some (.int (am_i (beA w (beF (fun t => laF last wf fm wd n z 0 (scS x (t / 8) (t % 8))) m t C S)))) ∧ M = (I', J, R', 138) ∧ rR R0 R' ∧ ∀ q k, ¬ (35 ≤ q ∧ q ≤ 41) → I' q k = I0 q k) (am_E (d + 8) 118 74 [(0, .ref 3), (1, .int (am_i b)), (3, .int (am_i w)), (5, .int (am_i (if S = -1 then (z : Int) + 1 else S))), (6, .int (am_i C)), (7, .int (am_i t))] [] (I, J, R, 138))
  | 0, t, C, S, I, R, ht, hR, hI, hC, hS, hCS => by
    have hxR := rR_x hR hx
    have h4R : R 3 4 = c := by rw [hR.1 _ _ (by omega)]; exact h4
    have hbn' : I (c + 4) b = am_i n := by rw [hI _ _ (by omega)]; exact hbn
    rw [sg_X11_better_74]
    show Wp (fun r M => ∃ I' R', r = some (.int (am_i (beA w (C, S)))) ∧ _) _
    by_cases q : C = -1
    · simp (disch := first | assumption | omega) only [am_i_add, am_i_sub, am_i_mul, am_ok_i, am_i_cl, n_lt, n_le, n_eq, n_lt0, n_le0, n_0lt, n_0le, n_eq0, ne_eq, ↓reduceIte, not_true_eq_false, not_false_eq_true, and_true, true_and, and_false, false_and, eq_T, eq_F, lt_T, lt_F, le_T, le_F, qn_T, qn_F, and_F, b01_T, b01_F, e_isIn, Int32.toInt_toInt64, am_i_toInt, am_l_toInt, Int.toNat_natCast, Int.reduceToNat, Int.reduceAdd, Int.reduceSub, Int.reduceMul, Int.reduceNeg, Nat.reduceAdd, Nat.reduceMul, Nat.add_zero, Nat.mul_zero, Nat.zero_add, am_zb0, am_zb1, ↓Bool.cond_decide, cond_true, cond_false, ↓am_let_s, ↓bI_p, bIJ_s, ↓bV_p, bVJ_s, ↓bL_p, bLJ_s, ly_cf, Bool.and_self, Bool.and_true, ly_csx, rX hxR, h4R, rC hxR hc, hbn']
      exact Wp_r ⟨I, R, by unfold beA; rw [if_pos q], rfl, hR, hI⟩
    · have hS' : S ≠ -1 := hCS q
      rw [if_neg hS']
      obtain ⟨C', rfl⟩ : ∃ k : Nat, C = k := ⟨C.toNat, by omega⟩
      obtain ⟨e1, e2⟩ := dv8 (i := C') (by omega)
      have nz : (!am_i 8 == 0) = true := by decide
      by_cases q0 : w = 0
      · simp (disch := first | assumption | omega) only [am_i_add, am_i_sub, am_i_mul, am_ok_i, am_i_cl, n_lt, n_le, n_eq, n_lt0, n_le0, n_0lt, n_0le, n_eq0, ne_eq, ↓reduceIte, not_true_eq_false, not_false_eq_true, and_true, true_and, and_false, false_and, eq_T, eq_F, lt_T, lt_F, le_T, le_F, qn_T, qn_F, and_F, b01_T, b01_F, e_isIn, Int32.toInt_toInt64, am_i_toInt, am_l_toInt, Int.toNat_natCast, Int.reduceToNat, Int.reduceAdd, Int.reduceSub, Int.reduceMul, Int.reduceNeg, Nat.reduceAdd, Nat.reduceMul, Nat.add_zero, Nat.mul_zero, Nat.zero_add, am_zb0, am_zb1, ↓Bool.cond_decide, cond_true, cond_false, ↓am_let_s, ↓bI_p, bIJ_s, ↓bV_p, bVJ_s, ↓bL_p, bLJ_s, ly_cf, Bool.and_self, Bool.and_true, ly_csx, rX hxR, h4R, rC hxR hc, hbn', nz, e1]
        exact Wp_r ⟨I, R, by unfold beA; rw [if_neg q, if_pos q0]; rfl, rfl, hR, hI⟩
      · by_cases q1 : w = 1
        · simp (disch := first | assumption | omega) only [↓Bool.cond_decide, cond_true, cond_false, ↓am_let_s, ↓bI_p, bIJ_s, ↓bV_p, bVJ_s, ↓bL_p, bLJ_s, ly_cf, Bool.and_self, Bool.and_true, ly_csx, rX hxR, h4R, rC hxR hc, hbn', nz, e1, e2, am_i_add, am_i_sub, am_i_mul, am_ok_i, am_i_cl, n_lt, n_le, n_eq, n_lt0, n_le0, n_0lt, n_0le, n_eq0, ne_eq, ↓reduceIte, not_true_eq_false, not_false_eq_true, and_true, true_and, and_false, false_and, eq_T, eq_F, lt_T, lt_F, le_T, le_F, qn_T, qn_F, and_F, b01_T, b01_F, e_isIn, Int32.toInt_toInt64, am_i_toInt, am_l_toInt, Int.toNat_natCast, Int.reduceToNat, Int.reduceAdd, Int.reduceSub, Int.reduceMul, Int.reduceNeg, Nat.reduceAdd, Nat.reduceMul, Nat.add_zero, Nat.mul_zero, Nat.zero_add, am_zb0, am_zb1]
          exact Wp_r ⟨I, R, by unfold beA; rw [if_neg q, if_neg q0, if_pos q1]; rfl, rfl, hR, hI⟩
        · by_cases q2 : w = 2
          · simp (disch := first | assumption | omega) only [am_i_add, am_i_sub, am_i_mul, am_ok_i, am_i_cl, n_lt, n_le, n_eq, n_lt0, n_le0, n_0lt, n_0le, n_eq0, ne_eq, ↓reduceIte, not_true_eq_false, not_false_eq_true, and_true, true_and, and_false, false_and, eq_T, eq_F, lt_T, lt_F, le_T, le_F, qn_T, qn_F, and_F, b01_T, b01_F, e_isIn, Int32.toInt_toInt64, am_i_toInt, am_l_toInt, Int.toNat_natCast, Int.reduceToNat, Int.reduceAdd, Int.reduceSub, Int.reduceMul, Int.reduceNeg, Nat.reduceAdd, Nat.reduceMul, Nat.add_zero, Nat.mul_zero, Nat.zero_add, am_zb0, am_zb1, ↓Bool.cond_decide, cond_true, cond_false, ↓am_let_s, ↓bI_p, bIJ_s, ↓bV_p, bVJ_s, ↓bL_p, bLJ_s, ly_cf, Bool.and_self, Bool.and_true, ly_csx, rX hxR, h4R, rC hxR hc, hbn']
            exact Wp_r ⟨I, R, by unfold beA; rw [if_neg q, if_neg q0, if_neg q1, if_pos q2], rfl, hR, hI⟩
          · simp (disch := first | assumption | omega) only [am_i_add, am_i_sub, am_i_mul, am_ok_i, am_i_cl, n_lt, n_le, n_eq, n_lt0, n_le0, n_0lt, n_0le, n_eq0, ne_eq, ↓reduceIte, not_true_eq_false, not_false_eq_true, and_true, true_and, and_false, false_and, eq_T, eq_F, lt_T, lt_F, le_T, le_F, qn_T, qn_F, and_F, b01_T, b01_F, e_isIn, Int32.toInt_toInt64, am_i_toInt, am_l_toInt, Int.toNat_natCast, Int.reduceToNat, Int.reduceAdd, Int.reduceSub, Int.reduceMul, Int.reduceNeg, Nat.reduceAdd, Nat.reduceMul, Nat.add_zero, Nat.mul_zero, Nat.zero_add, am_zb0, am_zb1, ↓Bool.cond_decide, cond_true, cond_false, ↓am_let_s, ↓bI_p, bIJ_s, ↓bV_p, bVJ_s, ↓bL_p, bLJ_s, ly_cf, Bool.and_self, Bool.and_true, ly_csx, rX hxR, h4R, rC hxR hc, hbn']
            exact Wp_r ⟨I, R, by unfold beA; rw [if_neg q, if_neg q0, if_neg q1, if_neg q2], rfl, hR, hI⟩
  | m + 1, t, C, S, I, R, ht, hR, hI, hC, hS, hCS => by
    obtain ⟨B, hB, hB1, hB2⟩ : ∃ B : Nat, (if S = -1 then (z : Int) + 1 else S) = B ∧ 1 ≤ B ∧ B ≤ z + 1 := by
      refine ⟨(if S = -1 then (z : Int) + 1 else S).toNat, ?_, ?_, ?_⟩ <;> split <;> omega
    rw [hB]
    have hxR := rR_x hR hx
    have h4R : R 3 4 = c := by rw [hR.1 _ _ (by omega)]; exact h4
    have hbn' : I (c + 4) b = am_i n := by rw [hI _ _ (by omega)]; exact hbn
    rw [sg_X11_better_74]
    simp (disch := first | assumption | omega) only [am_i_add, am_i_sub, am_i_mul, am_ok_i, am_i_cl, n_lt, n_le, n_eq, n_lt0, n_le0, n_0lt, n_0le, n_eq0, ne_eq, ↓reduceIte, not_true_eq_false, not_false_eq_true, and_true, true_and, and_false, false_and, eq_T, eq_F, lt_T, lt_F, le_T, le_F, qn_T, qn_F, and_F, b01_T, b01_F, e_isIn, Int32.toInt_toInt64, am_i_toInt, am_l_toInt, Int.toNat_natCast, Int.reduceToNat, Int.reduceAdd, Int.reduceSub, Int.reduceMul, Int.reduceNeg, Nat.reduceAdd, Nat.reduceMul, Nat.add_zero, Nat.mul_zero, Nat.zero_add, am_zb0, am_zb1, ↓Bool.cond_decide, cond_true, cond_false, ↓am_let_s, ↓bI_p, bIJ_s, ↓bV_p, bVJ_s, ↓bL_p, bLJ_s, ly_cf, Bool.and_self, Bool.and_true, ly_csx, rX hxR, h4R, rC hxR hc, hbn']
    refine Wp_V (x_load (s := x) (n := n) (b := b) hxR (Or.inl rfl) hc hb hbn' hn hO.2.2.2.1 (by
      obtain ⟨v0, v1, v2, v3, v4, v5⟩ := hbx
      exact ⟨by rw [hI _ _ (by omega)]; exact v0, by rw [hI _ _ (by omega)]; exact v1, by rw [hI _ _ (by omega)]; exact v2, by rw [hI _ _ (by omega)]; exact v3, by rw [hI _ _ (by omega)]; exact v4, fun k hk => by rw [hI _ _ (by omega)]; exact v5 k hk⟩)) ?_
    rintro _ _ ⟨I1, rfl, rfl, hf1, hH⟩
    refine ⟨rfl, ?_⟩
    have hR1 : rR R0 (am_up R 35 1 c) := rR_u hR hc (Or.inl rfl)
    have hx1 := rR_x hR1 hx
    obtain ⟨e1, e2⟩ := dv8 (i := t) (by omega)
    have nz : (!am_i 8 == 0) = true := by decide
    have e3 : am_i ((B : Int) - 1) = am_i ((B - 1 : Nat) : Int) := by congr 1; omega
    have ch : ∀ d, am_E (d + 1) 40 0 [(0, .ref 35), (1, .int (am_i ((t / 8 : Nat) : Int))), (2, .int (am_i ((t % 8 : Nat) : Int)))] [] (I1, J, am_up R 35 1 c, 138) = some (none, (am_up I1 41 (t / 8) (am_i ((t % 8 : Nat) : Int)), J, am_up R 35 1 c, 138)) := fun d => by
      rw [sg_X5_change_0]
      simp (disch := first | assumption | omega) only [am_i_add, am_i_sub, am_i_mul, am_ok_i, am_i_cl, n_lt, n_le, n_eq, n_lt0, n_le0, n_0lt, n_0le, n_eq0, ne_eq, ↓reduceIte, not_true_eq_false, not_false_eq_true, and_true, true_and, and_false, false_and, eq_T, eq_F, lt_T, lt_F, le_T, le_F, qn_T, qn_F, and_F, b01_T, b01_F, e_isIn, Int32.toInt_toInt64, am_i_toInt, am_l_toInt, Int.toNat_natCast, Int.reduceToNat, Int.reduceAdd, Int.reduceSub, Int.reduceMul, Int.reduceNeg, Nat.reduceAdd, Nat.reduceMul, Nat.add_zero, Nat.mul_zero, Nat.zero_add, am_zb0, am_zb1, ↓Bool.cond_decide, cond_true, cond_false, ↓am_let_s, ↓bI_p, bIJ_s, ↓bV_p, bVJ_s, ↓bL_p, bLJ_s, ly_cf, Bool.and_self, Bool.and_true, ly_cax, rX hx1, sg_X5_change_17]
    simp (disch := first | assumption | omega) only [↓Bool.cond_decide, cond_true, cond_false, ↓am_let_s, ↓bI_p, bIJ_s, ↓bV_p, bVJ_s, ↓bL_p, bLJ_s, ly_cf, Bool.and_self, Bool.and_true, rX hx1, nz, e1, e2, ch, am_i_add, am_i_sub, am_i_mul, am_ok_i, am_i_cl, n_lt, n_le, n_eq, n_lt0, n_le0, n_0lt, n_0le, n_eq0, ne_eq, ↓reduceIte, not_true_eq_false, not_false_eq_true, and_true, true_and, and_false, false_and, eq_T, eq_F, lt_T, lt_F, le_T, le_F, qn_T, qn_F, and_F, b01_T, b01_F, e_isIn, Int32.toInt_toInt64, am_i_toInt, am_l_toInt, Int.toNat_natCast, Int.reduceToNat, Int.reduceAdd, Int.reduceSub, Int.reduceMul, Int.reduceNeg, Nat.reduceAdd, Nat.reduceMul, Nat.add_zero, Nat.mul_zero, Nat.zero_add, am_zb0, am_zb1, e3]
    have g1 : ∀ q k, ¬ (35 ≤ q ∧ q ≤ 41) → am_up I1 41 (t / 8) (am_i ((t % 8 : Nat) : Int)) q k = I0 q k := fun q k e => by
      rw [am_up_o (by omega), hf1 q k (hS_f.mpr (by omega)), hI q k e]
    have hH1 : hullR 35 (am_up I1 41 (t / 8) (am_i ((t % 8 : Nat) : Int))) n (scS x (t / 8) (t % 8)) := by
      obtain ⟨k1, k2, k3, k4, k5, k6, k7⟩ := hH
      refine ⟨by rw [am_up_o (by omega)]; exact k1, by rw [am_up_o (by omega)]; exact k2, by rw [am_up_o (by omega)]; exact k3, by rw [am_up_o (by omega)]; exact k4, by rw [am_up_o (by omega)]; exact k5, by rw [am_up_o (by omega)]; exact k6, fun k hk => ?_⟩
      show am_up I1 41 (t / 8) (am_i ((t % 8 : Nat) : Int)) 41 k = am_i ((if k = t / 8 then t % 8 else x.sc k : Nat) : Int)
      by_cases e : k = t / 8
      · rw [if_pos e, e, am_up_e]
      · rw [if_neg e, am_up_o (by omega)]
        exact k7 k hk
    refine Wp_I (Wp_e (sg_X5_landsBehind_0 _ _ _ _) (x_lb (d := d) (z := B - 1) hx1 (Or.inl rfl) hc am_up_e hn (by omega) (B - 1) 0 (scS x (t / 8) (t % 8)) (am_up I1 41 (t / 8) (am_i ((t % 8 : Nat) : Int))) (by omega) (cxX_c hc (fun q k a1 a2 => g1 q k (by omega)) hX) (scS_ok hO (by omega)) hH1)) ?_
    rintro _ _ ⟨I2, rfl, rfl, hf2⟩
    refine ⟨_, rfl, ?_⟩
    have g2 : ∀ q k, ¬ (35 ≤ q ∧ q ≤ 41) → I2 q k = I0 q k := fun q k e => by rw [hf2 q k (hS_f.mpr (by omega)), g1 q k e]
    have hle := laF_le (last := last) (wf := wf) (fm := fm) (u := wd) (n := n) (B - 1) z 0 (scS x (t / 8) (t % 8)) (by omega)
    have h1 := laF_1 (last := last) (wf := wf) (fm := fm) (u := wd) (n := n) (m := z) (x := scS x (t / 8) (t % 8)) hnl
    show Wp (fun r M => ∃ I' R', r = some (.int (am_i (beA w (if laF last wf fm wd n z 0 (scS x (t / 8) (t % 8)) = -1 ∨ (S ≠ -1 ∧ S ≤ laF last wf fm wd n z 0 (scS x (t / 8) (t % 8))) then beF (fun t => laF last wf fm wd n z 0 (scS x (t / 8) (t % 8))) m (t + 1) C S else beF (fun t => laF last wf fm wd n z 0 (scS x (t / 8) (t % 8))) m (t + 1) t (laF last wf fm wd n z 0 (scS x (t / 8) (t % 8))))))) ∧ M = (I', J, R', 138) ∧ rR R0 R' ∧ ∀ q k, ¬ (35 ≤ q ∧ q ≤ 41) → I' q k = I0 q k) _
    generalize laF last wf fm wd n z 0 (scS x (t / 8) (t % 8)) = v at hle h1 ⊢
    generalize laF last wf fm wd n (B - 1) 0 (scS x (t / 8) (t % 8)) = v' at hle ⊢
    by_cases qv : v = -1 ∨ (S ≠ -1 ∧ S ≤ v)
    · have hv' : v' = -1 := by
        rw [hle, if_neg]
        intro e
        split at hB <;> omega
      subst hv'
      rw [if_pos qv]
      simp (disch := first | assumption | omega) only [am_i_add, am_i_sub, am_i_mul, am_ok_i, am_i_cl, n_lt, n_le, n_eq, n_lt0, n_le0, n_0lt, n_0le, n_eq0, ne_eq, ↓reduceIte, not_true_eq_false, not_false_eq_true, and_true, true_and, and_false, false_and, eq_T, eq_F, lt_T, lt_F, le_T, le_F, qn_T, qn_F, and_F, b01_T, b01_F, e_isIn, Int32.toInt_toInt64, am_i_toInt, am_l_toInt, Int.toNat_natCast, Int.reduceToNat, Int.reduceAdd, Int.reduceSub, Int.reduceMul, Int.reduceNeg, Nat.reduceAdd, Nat.reduceMul, Nat.add_zero, Nat.mul_zero, Nat.zero_add, am_zb0, am_zb1, ↓Bool.cond_decide, cond_true, cond_false, ↓am_let_s, ↓bI_p, bIJ_s, ↓bV_p, bVJ_s, ↓bL_p, bLJ_s, ly_cf, Bool.and_self, Bool.and_true, sg_X11_better_151, am_i_s]
      rw [← hB]
      exact x_be hx h4 hc hn hz w1 w2 hb hX hO hnl hbn hbx m (t + 1) C S I2 _ (by omega) hR1 g2 hC hS hCS
    · have hv' : v' = v := by
        rw [hle, if_pos]
        split at hB <;> omega
      subst hv'
      rw [if_neg qv]
      have hvn : v' ≠ -1 := fun e => qv (Or.inl e)
      have ih := x_be hx h4 hc hn hz w1 w2 hb hX hO hnl hbn hbx m (t + 1) (t : Int) v' I2 _ (by omega) hR1 g2 (by omega) (by omega) (fun _ => hvn)
      rw [if_neg hvn] at ih
      simp (disch := first | assumption | omega) only [am_i_add, am_i_sub, am_i_mul, am_ok_i, am_i_cl, n_lt, n_le, n_eq, n_lt0, n_le0, n_0lt, n_0le, n_eq0, ne_eq, ↓reduceIte, not_true_eq_false, not_false_eq_true, and_true, true_and, and_false, false_and, eq_T, eq_F, lt_T, lt_F, le_T, le_F, qn_T, qn_F, and_F, b01_T, b01_F, e_isIn, Int32.toInt_toInt64, am_i_toInt, am_l_toInt, Int.toNat_natCast, Int.reduceToNat, Int.reduceAdd, Int.reduceSub, Int.reduceMul, Int.reduceNeg, Nat.reduceAdd, Nat.reduceMul, Nat.add_zero, Nat.mul_zero, Nat.zero_add, am_zb0, am_zb1, ↓Bool.cond_decide, cond_true, cond_false, ↓am_let_s, ↓bI_p, bIJ_s, ↓bV_p, bVJ_s, ↓bL_p, bLJ_s, ly_cf, Bool.and_self, Bool.and_true, sg_X11_better_151, am_i_s]
      exact ih
theorem m_be {I0 : tI} {R : tR} {z : Nat} {w : Int} {s : Nat → bt} (hm : st_Rm R) (hX : cxM last wd nb nt wf fm I0) (hb : b < nb) (hz : z ≤ 30) (hhz : h + z ≤ 999) (w1 : 0 ≤ w) (w2 : w ≤ 2) (h58 : I0 64 58 = am_i 0) (hr0 : rwM nb nt last h s I0) : ∀ (m k v : Nat) (C S p q : Int) (I : tI) (J : tJ), v ≤ 7 → 8 * k + v + (m + 1) = 8 * nt b → thM I0 I → (∀ k, I 103 k = I0 103 k) → (C = -1 ∨ 0 ≤ C ∧ C < 48) → (S = -1 ∨ 0 ≤ S ∧ S ≤ z) → (p = if C = -1 then -1 else C / 8) → (C ≠ -1 → q = C % 8) → Wp (fun r M => ∃ I' J', r = some (.int (am_i (beA w (beF (fun t => laF last wf fm wd (nt b) z 0 (scS (s b) (t / 8) (t % 8))) (m + 1) (8 * k + v) C S)))) ∧ M = (I', J', R, 138) ∧ frJ J J' ∧ ∀ q k, ¬ sC q k → I' q k = I0 q k) (am_E (d + 9) 236 67 [(0, .ref 64), (1, .int (am_i b)), (2, .int (am_i z)), (3, .int (am_i w)), (4, .int (am_i p)), (5, .int (am_i q)), (6, .int (am_i S)), (7, .int (am_i k)), (8, .int (am_i v))] [] (I, J, R, 138))
  | m, k, v, C, S, p, q, I, J, hv, hk, hT, hI, hC, hS, hp, hq => by
    have h6 := hX.2.2.2.2.2.1
    have hnb := (hX.2.2.2.2.2.2.1 b hb).1
    have hn96 := (hX.2.2.2.2.2.2.1 b hb).2
    have n2 : ((6 : Int) + 11 * (b : Int) + (k : Int)).toNat = 6 + 11 * b + k := by omega
    obtain ⟨hh, h0, hr⟩ := hr0
    have hd : (8 * k + v) / 8 = k := by omega
    have hmo : (8 * k + v) % 8 = v := by omega
    rw [sg_X12_better_67]
    simp (disch := first | assumption | omega) only [rM hm, ly_csm, ly_cam, ly_cf, ly_kd, ly_ln, ↓Bool.cond_decide, cond_true, cond_false, ↓bI_p, ↓bV_p, ↓bL_p, bIJ_s, bVJ_s, bLJ_s, ↓am_let_s, Nat.blt, Nat.ble, Bool.and_true, Bool.true_and, Bool.and_self, Int.cast_ofNat_Int, am_i_add, am_i_sub, am_i_mul, am_ok_i, am_i_cl, n_lt, n_le, n_eq, n_lt0, n_le0, n_0lt, n_0le, n_eq0, ne_eq, ↓reduceIte, not_true_eq_false, not_false_eq_true, and_true, true_and, and_false, false_and, eq_T, eq_F, lt_T, lt_F, le_T, le_F, qn_T, qn_F, and_F, b01_T, b01_F, e_isIn, Int32.toInt_toInt64, am_i_toInt, am_l_toInt, Int.toNat_natCast, Int.reduceToNat, Int.reduceAdd, Int.reduceSub, Int.reduceMul, Int.reduceNeg, Nat.reduceAdd, Nat.reduceMul, Nat.add_zero, Nat.mul_zero, Nat.zero_add, am_zb0, am_zb1, ↓Bool.cond_decide, cond_true, cond_false, ↓am_let_s, ↓bI_p, bIJ_s, ↓bV_p, bVJ_s, ↓bL_p, bLJ_s, ly_cf, Bool.and_self, Bool.and_true, n2]
    have hT' : thM I0 (am_up I 103 (6 + 11 * b + k) (am_i v)) := by
      obtain ⟨k1, k2, k3, k4⟩ := hT
      exact ⟨by rw [am_up_o (by omega)]; exact k1, fun k hk => by rw [am_up_o (by omega)]; exact k2 k hk, fun j hj => by rw [am_up_o (by omega)]; exact k3 j hj, fun q k a1 a2 a3 => by rw [am_up_o (by omega)]; exact k4 q k a1 a2 a3⟩
    have hr1 : rwM nb nt last h (upS s b (scS (s b) k v)) (am_up I 103 (6 + 11 * b + k) (am_i v)) := by
      refine ⟨hh, by rw [am_up_o (by omega), hI]; exact h0, fun j hj => ?_⟩
      obtain ⟨q1, q2⟩ := hr j hj
      have n6 := (hX.2.2.2.2.2.2.1 j hj).1
      obtain ⟨y1, y2, y3, y4, y5, y6⟩ := bX_i.mp q2
      by_cases e : j = b
      · subst e
        rw [upS_e]
        refine ⟨scS_ok q1 (by omega), bX_i.mpr ⟨by rw [am_up_o (by omega), hI]; exact y1, by rw [am_up_o (by omega), hI]; exact y2, by rw [am_up_o (by omega), hI]; exact y3, by rw [am_up_o (by omega), hI]; exact y4, by rw [am_up_o (by omega), hI]; exact y5, fun i hi => ?_⟩⟩
        show _ = am_i ((if i = k then v else (s j).sc i : Nat) : Int)
        by_cases e : i = k
        · rw [if_pos e, e, am_up_e]
        · rw [if_neg e, am_up_o (by omega), hI]
          exact y6 i hi
      · rw [upS_o e]
        exact ⟨q1, bX_i.mpr ⟨by rw [am_up_o (by omega), hI]; exact y1, by rw [am_up_o (by omega), hI]; exact y2, by rw [am_up_o (by omega), hI]; exact y3, by rw [am_up_o (by omega), hI]; exact y4, by rw [am_up_o (by omega), hI]; exact y5, fun k hk => by rw [am_up_o (by omega), hI]; exact y6 k hk⟩⟩
    refine Wp_I (Wp_e (sg_X12_landsIn_0 _ _ _ _ _) (m_li (d := d) (z := z) hm hX hb (by omega) z 0 h (upS s b (scS (s b) k v)) (am_up I 103 (6 + 11 * b + k) (am_i v)) J (by omega) (by omega) hT' hr1)) ?_
    rintro _ _ ⟨I2, J2, rfl, rfl, hj2, hT2, e2⟩
    refine ⟨_, rfl, ?_⟩
    rw [upS_e]
    have h1 := laF_b (last := last) (wf := wf) (fm := fm) (u := wd) (n := nt b) z 0 (scS (s b) k v)
    have ebe : beF (fun t => laF last wf fm wd (nt b) z 0 (scS (s b) (t / 8) (t % 8))) (m + 1) (8 * k + v) C S = (if laF last wf fm wd (nt b) z 0 (scS (s b) k v) = -1 ∨ (S ≠ -1 ∧ S ≤ laF last wf fm wd (nt b) z 0 (scS (s b) k v)) then beF (fun t => laF last wf fm wd (nt b) z 0 (scS (s b) (t / 8) (t % 8))) m (8 * k + v + 1) C S else beF (fun t => laF last wf fm wd (nt b) z 0 (scS (s b) (t / 8) (t % 8))) m (8 * k + v + 1) ((8 * k + v : Nat) : Int) (laF last wf fm wd (nt b) z 0 (scS (s b) k v))) := by
      show (if laF last wf fm wd (nt b) z 0 (scS (s b) ((8 * k + v) / 8) ((8 * k + v) % 8)) = -1 ∨ (S ≠ -1 ∧ S ≤ laF last wf fm wd (nt b) z 0 (scS (s b) ((8 * k + v) / 8) ((8 * k + v) % 8))) then _ else beF (fun t => laF last wf fm wd (nt b) z 0 (scS (s b) (t / 8) (t % 8))) m (8 * k + v + 1) ((8 * k + v : Nat) : Int) (laF last wf fm wd (nt b) z 0 (scS (s b) ((8 * k + v) / 8) ((8 * k + v) % 8)))) = _
      rw [hd, hmo]
    rw [ebe]
    generalize laF last wf fm wd (nt b) z 0 (scS (s b) k v) = V at h1 ⊢
    have nM := fun d => e_noteMany (d := d) (I := I2) (J := J2) (b := (b : Int)) hm (by omega) (by omega)
    rw [Int.toNat_natCast, hT2.2.2.2 _ _ (by unfold sC; omega) (by omega) (by omega), hn96] at nM
    have fin : ∀ C' S' p' q' : Int, (C' = -1 ∨ 0 ≤ C' ∧ C' < 48) → (S' = -1 ∨ 0 ≤ S' ∧ S' ≤ z) → (p' = if C' = -1 then -1 else C' / 8) → (C' ≠ -1 → q' = C' % 8) → Wp (fun r M => ∃ I' J', r = some (.int (am_i (beA w (beF (fun t => laF last wf fm wd (nt b) z 0 (scS (s b) (t / 8) (t % 8))) m (8 * k + v + 1) C' S')))) ∧ M = (I', J', R, 138) ∧ frJ J J' ∧ ∀ q k, ¬ sC q k → I' q k = I0 q k) (am_E (d + 9) 236 67 [(0, .ref 64), (1, .int (am_i b)), (2, .int (am_i z)), (3, .int (am_i w)), (4, .int (am_i p')), (5, .int (am_i q')), (6, .int (am_i S')), (7, .int (am_i k)), (8, .int (am_i ((v + 1 : Nat) : Int)))] [] (I2, J2, R, 138)) := by
      intro C' S' p' q' a1 a2 a3 a4
      by_cases c7 : v = 7
      · rw [sg_X12_better_67]
        simp (disch := first | assumption | omega) only [am_i_add, am_i_sub, am_i_mul, am_ok_i, am_i_cl, n_lt, n_le, n_eq, n_lt0, n_le0, n_0lt, n_0le, n_eq0, ne_eq, ↓reduceIte, not_true_eq_false, not_false_eq_true, and_true, true_and, and_false, false_and, eq_T, eq_F, lt_T, lt_F, le_T, le_F, qn_T, qn_F, and_F, b01_T, b01_F, e_isIn, Int32.toInt_toInt64, am_i_toInt, am_l_toInt, Int.toNat_natCast, Int.reduceToNat, Int.reduceAdd, Int.reduceSub, Int.reduceMul, Int.reduceNeg, Nat.reduceAdd, Nat.reduceMul, Nat.add_zero, Nat.mul_zero, Nat.zero_add, am_zb0, am_zb1, ↓Bool.cond_decide, cond_true, cond_false, ↓am_let_s, ↓bI_p, bIJ_s, ↓bV_p, bVJ_s, ↓bL_p, bLJ_s, ly_cf, Bool.and_self, Bool.and_true, am_i_s]
        rw [sg_X12_better_54]
        cases m with
        | zero =>
          simp (disch := first | assumption | omega) only [am_i_add, am_i_sub, am_i_mul, am_ok_i, am_i_cl, n_lt, n_le, n_eq, n_lt0, n_le0, n_0lt, n_0le, n_eq0, ne_eq, ↓reduceIte, not_true_eq_false, not_false_eq_true, and_true, true_and, and_false, false_and, eq_T, eq_F, lt_T, lt_F, le_T, le_F, qn_T, qn_F, and_F, b01_T, b01_F, e_isIn, Int32.toInt_toInt64, am_i_toInt, am_l_toInt, Int.toNat_natCast, Int.reduceToNat, Int.reduceAdd, Int.reduceSub, Int.reduceMul, Int.reduceNeg, Nat.reduceAdd, Nat.reduceMul, Nat.add_zero, Nat.mul_zero, Nat.zero_add, am_zb0, am_zb1, ↓Bool.cond_decide, cond_true, cond_false, ↓am_let_s, ↓bI_p, bIJ_s, ↓bV_p, bVJ_s, ↓bL_p, bLJ_s, ly_cf, Bool.and_self, Bool.and_true, nM]
          refine Wp_V (m_back hm hT2 h58) ?_
          rintro _ _ ⟨I', rfl, rfl, e5⟩
          refine ⟨rfl, ?_⟩
          show Wp (fun r M => ∃ I' J', r = some (.int (am_i (beA w (C', S')))) ∧ _) _
          by_cases c : C' = -1
          · rw [if_pos c] at a3
            simp (disch := first | assumption | omega) only [am_i_add, am_i_sub, am_i_mul, am_ok_i, am_i_cl, n_lt, n_le, n_eq, n_lt0, n_le0, n_0lt, n_0le, n_eq0, ne_eq, ↓reduceIte, not_true_eq_false, not_false_eq_true, and_true, true_and, and_false, false_and, eq_T, eq_F, lt_T, lt_F, le_T, le_F, qn_T, qn_F, and_F, b01_T, b01_F, e_isIn, Int32.toInt_toInt64, am_i_toInt, am_l_toInt, Int.toNat_natCast, Int.reduceToNat, Int.reduceAdd, Int.reduceSub, Int.reduceMul, Int.reduceNeg, Nat.reduceAdd, Nat.reduceMul, Nat.add_zero, Nat.mul_zero, Nat.zero_add, am_zb0, am_zb1, ↓Bool.cond_decide, cond_true, cond_false, ↓am_let_s, ↓bI_p, bIJ_s, ↓bV_p, bVJ_s, ↓bL_p, bLJ_s, ly_cf, Bool.and_self, Bool.and_true, a3]
            exact Wp_r ⟨I', J2, by unfold beA; rw [if_pos c], rfl, hj2, e5⟩
          · rw [if_neg c] at a3
            have a4' := a4 c
            by_cases q0 : w = 0
            · simp (disch := first | assumption | omega) only [am_i_add, am_i_sub, am_i_mul, am_ok_i, am_i_cl, n_lt, n_le, n_eq, n_lt0, n_le0, n_0lt, n_0le, n_eq0, ne_eq, ↓reduceIte, not_true_eq_false, not_false_eq_true, and_true, true_and, and_false, false_and, eq_T, eq_F, lt_T, lt_F, le_T, le_F, qn_T, qn_F, and_F, b01_T, b01_F, e_isIn, Int32.toInt_toInt64, am_i_toInt, am_l_toInt, Int.toNat_natCast, Int.reduceToNat, Int.reduceAdd, Int.reduceSub, Int.reduceMul, Int.reduceNeg, Nat.reduceAdd, Nat.reduceMul, Nat.add_zero, Nat.mul_zero, Nat.zero_add, am_zb0, am_zb1, ↓Bool.cond_decide, cond_true, cond_false, ↓am_let_s, ↓bI_p, bIJ_s, ↓bV_p, bVJ_s, ↓bL_p, bLJ_s, ly_cf, Bool.and_self, Bool.and_true]
              exact Wp_r ⟨I', J2, by unfold beA; rw [if_neg c, if_pos q0, a3], rfl, hj2, e5⟩
            · by_cases q1 : w = 1
              · simp (disch := first | assumption | omega) only [am_i_add, am_i_sub, am_i_mul, am_ok_i, am_i_cl, n_lt, n_le, n_eq, n_lt0, n_le0, n_0lt, n_0le, n_eq0, ne_eq, ↓reduceIte, not_true_eq_false, not_false_eq_true, and_true, true_and, and_false, false_and, eq_T, eq_F, lt_T, lt_F, le_T, le_F, qn_T, qn_F, and_F, b01_T, b01_F, e_isIn, Int32.toInt_toInt64, am_i_toInt, am_l_toInt, Int.toNat_natCast, Int.reduceToNat, Int.reduceAdd, Int.reduceSub, Int.reduceMul, Int.reduceNeg, Nat.reduceAdd, Nat.reduceMul, Nat.add_zero, Nat.mul_zero, Nat.zero_add, am_zb0, am_zb1, ↓Bool.cond_decide, cond_true, cond_false, ↓am_let_s, ↓bI_p, bIJ_s, ↓bV_p, bVJ_s, ↓bL_p, bLJ_s, ly_cf, Bool.and_self, Bool.and_true]
                exact Wp_r ⟨I', J2, by unfold beA; rw [if_neg c, if_neg q0, if_pos q1, a4'], rfl, hj2, e5⟩
              · simp (disch := first | assumption | omega) only [am_i_add, am_i_sub, am_i_mul, am_ok_i, am_i_cl, n_lt, n_le, n_eq, n_lt0, n_le0, n_0lt, n_0le, n_eq0, ne_eq, ↓reduceIte, not_true_eq_false, not_false_eq_true, and_true, true_and, and_false, false_and, eq_T, eq_F, lt_T, lt_F, le_T, le_F, qn_T, qn_F, and_F, b01_T, b01_F, e_isIn, Int32.toInt_toInt64, am_i_toInt, am_l_toInt, Int.toNat_natCast, Int.reduceToNat, Int.reduceAdd, Int.reduceSub, Int.reduceMul, Int.reduceNeg, Nat.reduceAdd, Nat.reduceMul, Nat.add_zero, Nat.mul_zero, Nat.zero_add, am_zb0, am_zb1, ↓Bool.cond_decide, cond_true, cond_false, ↓am_let_s, ↓bI_p, bIJ_s, ↓bV_p, bVJ_s, ↓bL_p, bLJ_s, ly_cf, Bool.and_self, Bool.and_true]
                exact Wp_r ⟨I', J2, by unfold beA; rw [if_neg c, if_neg q0, if_neg q1, if_pos (by omega)], rfl, hj2, e5⟩
        | succ m =>
          simp (disch := first | assumption | omega) only [am_i_add, am_i_sub, am_i_mul, am_ok_i, am_i_cl, n_lt, n_le, n_eq, n_lt0, n_le0, n_0lt, n_0le, n_eq0, ne_eq, ↓reduceIte, not_true_eq_false, not_false_eq_true, and_true, true_and, and_false, false_and, eq_T, eq_F, lt_T, lt_F, le_T, le_F, qn_T, qn_F, and_F, b01_T, b01_F, e_isIn, Int32.toInt_toInt64, am_i_toInt, am_l_toInt, Int.toNat_natCast, Int.reduceToNat, Int.reduceAdd, Int.reduceSub, Int.reduceMul, Int.reduceNeg, Nat.reduceAdd, Nat.reduceMul, Nat.add_zero, Nat.mul_zero, Nat.zero_add, am_zb0, am_zb1, ↓Bool.cond_decide, cond_true, cond_false, ↓am_let_s, ↓bI_p, bIJ_s, ↓bV_p, bVJ_s, ↓bL_p, bLJ_s, ly_cf, Bool.and_self, Bool.and_true, nM]
          have ih := m_be hm hX hb hz hhz w1 w2 h58 ⟨hh, h0, hr⟩ m (k + 1) 0 C' S' p' q' I2 J2 (by omega) (by omega) hT2 e2 a1 a2 a3 a4
          rw [show 8 * (k + 1) + 0 = 8 * k + v + 1 by omega] at ih
          refine Wp_m ih ?_
          rintro _ _ ⟨I3, J3, rfl, rfl, g1, g2⟩
          exact ⟨I3, J3, rfl, rfl, frJ_t hj2 g1, g2⟩
      · cases m with
        | zero => omega
        | succ m =>
          have ih := m_be hm hX hb hz hhz w1 w2 h58 ⟨hh, h0, hr⟩ m k (v + 1) C' S' p' q' I2 J2 (by omega) (by omega) hT2 e2 a1 a2 a3 a4
          refine Wp_m ih ?_
          rintro _ _ ⟨I3, J3, rfl, rfl, g1, g2⟩
          exact ⟨I3, J3, rfl, rfl, frJ_t hj2 g1, g2⟩
    by_cases qv : V = -1
    · rw [if_pos (Or.inl qv)]
      simp (disch := first | assumption | omega) only [am_i_add, am_i_sub, am_i_mul, am_ok_i, am_i_cl, n_lt, n_le, n_eq, n_lt0, n_le0, n_0lt, n_0le, n_eq0, ne_eq, ↓reduceIte, not_true_eq_false, not_false_eq_true, and_true, true_and, and_false, false_and, eq_T, eq_F, lt_T, lt_F, le_T, le_F, qn_T, qn_F, and_F, b01_T, b01_F, e_isIn, Int32.toInt_toInt64, am_i_toInt, am_l_toInt, Int.toNat_natCast, Int.reduceToNat, Int.reduceAdd, Int.reduceSub, Int.reduceMul, Int.reduceNeg, Nat.reduceAdd, Nat.reduceMul, Nat.add_zero, Nat.mul_zero, Nat.zero_add, am_zb0, am_zb1, ↓Bool.cond_decide, cond_true, cond_false, ↓am_let_s, ↓bI_p, bIJ_s, ↓bV_p, bVJ_s, ↓bL_p, bLJ_s, ly_cf, Bool.and_self, Bool.and_true, sg_X12_better_133, am_i_s]
      exact fin C S p q hC hS hp hq
    · by_cases qc : S = -1
      · rw [if_neg (by omega)]
        simp (disch := first | assumption | omega) only [am_i_add, am_i_sub, am_i_mul, am_ok_i, am_i_cl, n_lt, n_le, n_eq, n_lt0, n_le0, n_0lt, n_0le, n_eq0, ne_eq, ↓reduceIte, not_true_eq_false, not_false_eq_true, and_true, true_and, and_false, false_and, eq_T, eq_F, lt_T, lt_F, le_T, le_F, qn_T, qn_F, and_F, b01_T, b01_F, e_isIn, Int32.toInt_toInt64, am_i_toInt, am_l_toInt, Int.toNat_natCast, Int.reduceToNat, Int.reduceAdd, Int.reduceSub, Int.reduceMul, Int.reduceNeg, Nat.reduceAdd, Nat.reduceMul, Nat.add_zero, Nat.mul_zero, Nat.zero_add, am_zb0, am_zb1, ↓Bool.cond_decide, cond_true, cond_false, ↓am_let_s, ↓bI_p, bIJ_s, ↓bV_p, bVJ_s, ↓bL_p, bLJ_s, ly_cf, Bool.and_self, Bool.and_true, sg_X12_better_121, sg_X12_better_133, am_i_s]
        exact fin _ V k v (by omega) (by omega) (by rw [if_neg (by omega)]; omega) (fun _ => by omega)
      · by_cases q3 : V < S
        · rw [if_neg (by omega)]
          simp (disch := first | assumption | omega) only [am_i_add, am_i_sub, am_i_mul, am_ok_i, am_i_cl, n_lt, n_le, n_eq, n_lt0, n_le0, n_0lt, n_0le, n_eq0, ne_eq, ↓reduceIte, not_true_eq_false, not_false_eq_true, and_true, true_and, and_false, false_and, eq_T, eq_F, lt_T, lt_F, le_T, le_F, qn_T, qn_F, and_F, b01_T, b01_F, e_isIn, Int32.toInt_toInt64, am_i_toInt, am_l_toInt, Int.toNat_natCast, Int.reduceToNat, Int.reduceAdd, Int.reduceSub, Int.reduceMul, Int.reduceNeg, Nat.reduceAdd, Nat.reduceMul, Nat.add_zero, Nat.mul_zero, Nat.zero_add, am_zb0, am_zb1, ↓Bool.cond_decide, cond_true, cond_false, ↓am_let_s, ↓bI_p, bIJ_s, ↓bV_p, bVJ_s, ↓bL_p, bLJ_s, ly_cf, Bool.and_self, Bool.and_true, sg_X12_better_121, sg_X12_better_133, am_i_s]
          exact fin _ V k v (by omega) (by omega) (by rw [if_neg (by omega)]; omega) (fun _ => by omega)
        · rw [if_pos (Or.inr ⟨qc, by omega⟩)]
          simp (disch := first | assumption | omega) only [am_i_add, am_i_sub, am_i_mul, am_ok_i, am_i_cl, n_lt, n_le, n_eq, n_lt0, n_le0, n_0lt, n_0le, n_eq0, ne_eq, ↓reduceIte, not_true_eq_false, not_false_eq_true, and_true, true_and, and_false, false_and, eq_T, eq_F, lt_T, lt_F, le_T, le_F, qn_T, qn_F, and_F, b01_T, b01_F, e_isIn, Int32.toInt_toInt64, am_i_toInt, am_l_toInt, Int.toNat_natCast, Int.reduceToNat, Int.reduceAdd, Int.reduceSub, Int.reduceMul, Int.reduceNeg, Nat.reduceAdd, Nat.reduceMul, Nat.add_zero, Nat.mul_zero, Nat.zero_add, am_zb0, am_zb1, ↓Bool.cond_decide, cond_true, cond_false, ↓am_let_s, ↓bI_p, bIJ_s, ↓bV_p, bVJ_s, ↓bL_p, bLJ_s, ly_cf, Bool.and_self, Bool.and_true, sg_X12_better_121, sg_X12_better_133, am_i_s]
          exact fin C S p q hC hS hp hq
  termination_by m => m
end BETTER
section PBET
variable {L : Nat} {xs : Nat → Int32}
/-- the reference's better, behind its looks at what is asked -/
theorem m_bet {d : Nat} {J : tJ} {R : tR} {last wd nb b : Nat} {nt wf : Nat → Nat} {fm : Nat → List tok} {h : Nat} {I0 : tI} {z : Nat} {w : Int} {s : Nat → bt} (hm : st_Rm R) (hX : cxM last wd nb nt wf fm I0) (hb : b < nb) (hz : z ≤ 30) (hhz : h + z ≤ 999) (w1 : 0 ≤ w) (w2 : w ≤ 2) (h58 : I0 64 58 = am_i 0) (hr0 : rwM nb nt last h s I0) : Wp (fun r M => ∃ I' J', r = some (.int (am_i (beA w (beF (fun t => laF last wf fm wd (nt b) z 0 (scS (s b) (t / 8) (t % 8))) (8 * nt b) 0 (-1) (laF last wf fm wd (nt b) z 0 (s b)))))) ∧ M = (I', J', R, 138) ∧ frJ J J' ∧ ∀ q k, ¬ sC q k → I' q k = I0 q k) (bVJ (fun M4 => (bif am_cf M4.2.2.2 64 12 then am_bI (am_E (d + 8) 227 0 [(0, .ref 64), (1, .int (am_i b)), (2, .int (am_i z))] [] M4) (fun v4 M5 => am_E (d + 9) 236 54 [(0, .ref 64), (1, .int (am_i b)), (2, .int (am_i z)), (3, .int (am_i w)), (4, .int (am_i (-1))), (5, .int (am_i (-1))), (6, .int v4), (7, .int (am_i 0))] [] M5) else none)) (am_E (d + 8) 212 0 [(0, .ref 64)] [] (I0, J, R, 138))) := by
  have h6 := hX.2.2.2.2.2.1
  have hn96 := (hX.2.2.2.2.2.2.1 b hb).2
  have hnb := (hX.2.2.2.2.2.2.1 b hb).1
  refine Wp_V (m_aside hm) ?_
  rintro _ _ ⟨I3, rfl, rfl, ht3, e3⟩
  refine ⟨rfl, ?_⟩
  simp (disch := first | assumption | omega) only [am_i_add, am_i_sub, am_i_mul, am_ok_i, am_i_cl, n_lt, n_le, n_eq, n_lt0, n_le0, n_0lt, n_0le, n_eq0, ne_eq, ↓reduceIte, not_true_eq_false, not_false_eq_true, and_true, true_and, and_false, false_and, eq_T, eq_F, lt_T, lt_F, le_T, le_F, qn_T, qn_F, and_F, b01_T, b01_F, e_isIn, Int32.toInt_toInt64, am_i_toInt, am_l_toInt, Int.toNat_natCast, Int.reduceToNat, Int.reduceAdd, Int.reduceSub, Int.reduceMul, Int.reduceNeg, Nat.reduceAdd, Nat.reduceMul, Nat.add_zero, Nat.mul_zero, Nat.zero_add, am_zb0, am_zb1, ↓Bool.cond_decide, cond_true, cond_false, ↓am_let_s, ↓bI_p, bIJ_s, ↓bV_p, bVJ_s, ↓bL_p, bLJ_s, ly_cf, Bool.and_self, Bool.and_true]
  have hr3 : rwM nb nt last h s I3 := rwM_c hr0 h6 (fun b hb => (hX.2.2.2.2.2.2.1 b hb).1) (fun k hk => by rw [e3])
  refine Wp_I (Wp_e (sg_X12_landsIn_0 _ _ _ _ _) (m_li (d := d) (z := z) hm hX hb (by omega) z 0 h s I3 J (by omega) (by omega) ht3 hr3)) ?_
  rintro _ _ ⟨I4, J4, rfl, rfl, hj4, ht4, e4⟩
  refine ⟨_, rfl, ?_⟩
  have nM := fun d => e_noteMany (d := d) (I := I4) (J := J4) (b := (b : Int)) hm (by omega) (by omega)
  rw [Int.toNat_natCast, ht4.2.2.2 _ _ (by unfold sC; omega) (by omega) (by omega), hn96] at nM
  have hSb := laF_b (last := last) (wf := wf) (fm := fm) (u := wd) (n := nt b) z 0 (s b)
  rw [sg_X12_better_54]
  by_cases q : nt b = 0
  · simp (disch := first | assumption | omega) only [am_i_add, am_i_sub, am_i_mul, am_ok_i, am_i_cl, n_lt, n_le, n_eq, n_lt0, n_le0, n_0lt, n_0le, n_eq0, ne_eq, ↓reduceIte, not_true_eq_false, not_false_eq_true, and_true, true_and, and_false, false_and, eq_T, eq_F, lt_T, lt_F, le_T, le_F, qn_T, qn_F, and_F, b01_T, b01_F, e_isIn, Int32.toInt_toInt64, am_i_toInt, am_l_toInt, Int.toNat_natCast, Int.reduceToNat, Int.reduceAdd, Int.reduceSub, Int.reduceMul, Int.reduceNeg, Nat.reduceAdd, Nat.reduceMul, Nat.add_zero, Nat.mul_zero, Nat.zero_add, am_zb0, am_zb1, ↓Bool.cond_decide, cond_true, cond_false, ↓am_let_s, ↓bI_p, bIJ_s, ↓bV_p, bVJ_s, ↓bL_p, bLJ_s, ly_cf, Bool.and_self, Bool.and_true, nM]
    refine Wp_V (m_back hm ht4 h58) ?_
    rintro _ _ ⟨I', rfl, rfl, e5⟩
    refine ⟨rfl, ?_⟩
    simp (disch := first | assumption | omega) only [am_i_add, am_i_sub, am_i_mul, am_ok_i, am_i_cl, n_lt, n_le, n_eq, n_lt0, n_le0, n_0lt, n_0le, n_eq0, ne_eq, ↓reduceIte, not_true_eq_false, not_false_eq_true, and_true, true_and, and_false, false_and, eq_T, eq_F, lt_T, lt_F, le_T, le_F, qn_T, qn_F, and_F, b01_T, b01_F, e_isIn, Int32.toInt_toInt64, am_i_toInt, am_l_toInt, Int.toNat_natCast, Int.reduceToNat, Int.reduceAdd, Int.reduceSub, Int.reduceMul, Int.reduceNeg, Nat.reduceAdd, Nat.reduceMul, Nat.add_zero, Nat.mul_zero, Nat.zero_add, am_zb0, am_zb1, ↓Bool.cond_decide, cond_true, cond_false, ↓am_let_s, ↓bI_p, bIJ_s, ↓bV_p, bVJ_s, ↓bL_p, bLJ_s, ly_cf, Bool.and_self, Bool.and_true]
    exact Wp_r ⟨I', J4, by rw [q]; rfl, rfl, hj4, e5⟩
  · simp (disch := first | assumption | omega) only [am_i_add, am_i_sub, am_i_mul, am_ok_i, am_i_cl, n_lt, n_le, n_eq, n_lt0, n_le0, n_0lt, n_0le, n_eq0, ne_eq, ↓reduceIte, not_true_eq_false, not_false_eq_true, and_true, true_and, and_false, false_and, eq_T, eq_F, lt_T, lt_F, le_T, le_F, qn_T, qn_F, and_F, b01_T, b01_F, e_isIn, Int32.toInt_toInt64, am_i_toInt, am_l_toInt, Int.toNat_natCast, Int.reduceToNat, Int.reduceAdd, Int.reduceSub, Int.reduceMul, Int.reduceNeg, Nat.reduceAdd, Nat.reduceMul, Nat.add_zero, Nat.mul_zero, Nat.zero_add, am_zb0, am_zb1, ↓Bool.cond_decide, cond_true, cond_false, ↓am_let_s, ↓bI_p, bIJ_s, ↓bV_p, bVJ_s, ↓bL_p, bLJ_s, ly_cf, Bool.and_self, Bool.and_true, nM]
    obtain ⟨m, hm1⟩ : ∃ m, 8 * nt b = m + 1 := ⟨8 * nt b - 1, by omega⟩
    have ml := m_be (d := d) (b := b) (I0 := I0) (R := R) (z := z) (w := w) (s := s) (wd := wd) (wf := wf) (fm := fm) (last := last) (nt := nt) hm hX hb hz hhz w1 w2 h58 hr0 m 0 0 (-1) (laF last wf fm wd (nt b) z 0 (s b)) (-1) (-1) I4 J4 (by omega) (by omega) ht4 e4 (Or.inl rfl) (by omega) (by rfl) (fun e => absurd rfl e)
    rw [hm1]
    refine Wp_m ml ?_
    rintro _ _ ⟨I5, J5, rfl, rfl, hj5, e5⟩
    exact ⟨I5, J5, rfl, rfl, frJ_t hj4 hj5, e5⟩
theorem p_better (d : Nat) (a1 a2 a3 : Int32) : pr_I (vV restW L xs) (d + 9) 118 236 [(1, .int a1), (2, .int a2), (3, .int a3)] := by
  refine pW_I ?_
  intro I J R hV
  have hV0 := hV
  obtain ⟨⟨h1, h2, hx, hm, hmu⟩, ht, hr, hf, hp, hs, hd, hw⟩ := hV
  obtain ⟨c, last, nb, nr, nw, wd, sq, K, nt, wf, fm, h4, hc, hB, hN, hF, ⟨h, s, ⟨hh, e66, g0, hbt⟩, ⟨ek, gk, hkp⟩, hKh⟩, hA, hX⟩ := hw
  obtain ⟨b1, b2, b3, b4, b5, b6, b7, b8, i0, m0, i1, m1, i2, m2, i3, m3, i4, m4, i5, m5, mS, mT, hnt, hky, hwf⟩ := hB
  obtain ⟨z, z1, z2, rfl⟩ := i32_z a1
  obtain ⟨y, y1, y2, rfl⟩ := i32_z a2
  obtain ⟨w, w1, w2, rfl⟩ := i32_z a3
  have xB := fun d => e_xisBoat d (am_i z) nb c I J R hx h4 hc b3 i1
  have xT := fun d => x_try (d := d) (J := J) (z := y) hx hh e66 y1 y2
  by_cases hq : (0 ≤ z ∧ z < nb) ∧ (1 ≤ y ∧ y ≤ (min 30 (999 - h) : Nat))
  · obtain ⟨b, rfl⟩ : ∃ n : Nat, z = n := ⟨z.toNat, by omega⟩
    obtain ⟨v, rfl⟩ : ∃ n : Nat, y = n := ⟨y.toNat, by omega⟩
    have hb : b < nb := by omega
    have hl0 : last ≠ 0 := fun e => by have := (b8 e).1; omega
    obtain ⟨n6, n1, n2⟩ := hnt b hb
    obtain ⟨hO, hb1, hb2⟩ := hbt b hb
    have hXx : cxX c last wd wf fm I := ⟨i0, b2, i4, b6, fun m hm => ⟨(hwf m hm).1, (hwf m hm).2.1⟩, fun f hf => ⟨(hF hl0 f hf).1, (hF hl0 f hf).2.2⟩⟩
    have hXm : cxM last wd nb nt wf fm I := ⟨m0, b2, m4, b6, m1, b3, fun b hb => ⟨(hnt b hb).1, (hnt b hb).2.2⟩, fun m hm => (hwf m hm).2.2, fun f hf => ⟨(hF hl0 f hf).2.1, (hF hl0 f hf).2.2⟩⟩
    have hRM : rwM nb nt last h s I := ⟨hh, g0, fun b hb => ⟨(hbt b hb).1, (hbt b hb).2.2⟩⟩
    have hnt6 : ∀ b, b < nb → nt b ≤ 6 := fun b hb => (hnt b hb).1
    have hR1 : rR R (am_up R 35 1 c) := rR_u (rR_r hmu) hc (Or.inl rfl)
    have hx1 := rR_x hR1 hx
    have hm1 := rR_m hR1 hm
    have h41 : am_up R 35 1 c 3 4 = c := h4
    have xL := fun d => e_xLanded (d := d) (J := J) (I := I) (b := (b : Int)) (v := (s b).mi) (w := last) hx h4 hc (by omega) (by omega) (by rw [Int.toNat_natCast]; exact hb1.1) i0 (by have := hO.1; omega) b2
    have mAt : last ≠ 0 ∧ (((1 : Nat) : Int)) ≤ (v : Int) ∧ (v : Int) ≤ ((30 : Nat) : Int) ∧ (h : Int) + v ≤ 999 := ⟨hl0, by omega, by omega, by omega⟩
    /- the reference's side -/
    have mod : ∀ I2 R2, rR R R2 → (∀ q k, ¬ (35 ≤ q ∧ q ≤ 41) → I2 q k = I q k) → Wp (fun q' M' => ∃ I3 J3 R3, q' = some (.int (am_i (beA w (beF (fun t => laF last wf fm wd (nt b) v 0 (scS (s b) (t / 8) (t % 8))) (8 * nt b) 0 (-1) (laF last wf fm wd (nt b) v 0 (s b)))))) ∧ M' = (I3, J3, R3, 138) ∧ vV restW L xs I3 J3 R3) (am_E (d + 9) 236 0 [(0, .ref 64), (1, .int (am_i b)), (2, .int (am_i v)), (3, .int (am_i w))] [] (I2, J, R2, 138)) := by
      intro I2 R2 hR2 g2
      have hm2 := rR_m hR2 hm
      have hXm2 : cxM last wd nb nt wf fm I2 := cxM_c (fun q k a1 a2 => g2 q k (by omega)) hXm
      have mB := fun d => e_misBoat d (am_i b) nb I2 J R2 hm2 b3 hXm2.2.2.2.2.1
      have mA : ∀ d, am_E (d + 2) 215 0 [(0, .ref 64), (1, .int (am_i v)), (2, .int (am_i 1)), (3, .int (am_i 30))] [] (I2, J, R2, 138) = _ := fun d => m_isAhead (d := d) (J := J) (z := (v : Int)) (lo := 1) (hi := 30) (last := last) hm2 hh (by rw [g2 _ _ (by omega)]; exact g0) (by rw [g2 _ _ (by omega)]; exact mS) y1 y2 (by omega) (by omega)
      rw [sg_X12_better_0]
      by_cases hw : 0 ≤ w ∧ w ≤ 2
      · simp (disch := first | assumption | omega) only [ly_csm, am_i_add, am_i_sub, am_i_mul, am_ok_i, am_i_cl, n_lt, n_le, n_eq, n_lt0, n_le0, n_0lt, n_0le, n_eq0, ne_eq, ↓reduceIte, not_true_eq_false, not_false_eq_true, and_true, true_and, and_false, false_and, eq_T, eq_F, lt_T, lt_F, le_T, le_F, qn_T, qn_F, and_F, b01_T, b01_F, e_isIn, Int32.toInt_toInt64, am_i_toInt, am_l_toInt, Int.toNat_natCast, Int.reduceToNat, Int.reduceAdd, Int.reduceSub, Int.reduceMul, Int.reduceNeg, Nat.reduceAdd, Nat.reduceMul, Nat.add_zero, Nat.mul_zero, Nat.zero_add, am_zb0, am_zb1, ↓Bool.cond_decide, cond_true, cond_false, ↓am_let_s, ↓bI_p, bIJ_s, ↓bV_p, bVJ_s, ↓bL_p, bLJ_s, ly_cf, Bool.and_self, Bool.and_true, rM hm2, mB, mA, b01_t hq.1, b01_t mAt]
        have hr2 : rwM nb nt last h s I2 := rwM_c hRM b3 hnt6 (fun k hk => g2 _ _ (by omega))
        refine Wp_m (m_bet (d := d) (z := v) (w := w) (s := s) hm2 hXm2 hb (by omega) (by omega) hw.1 hw.2 (by rw [g2 _ _ (by omega)]; exact mT) hr2) ?_
        rintro _ _ ⟨I5, J5, rfl, rfl, hj5, e5⟩
        refine ⟨I5, J5, _, rfl, rfl, vV_s hV0 (fun q k e => ?_) (fun q k e1 e2 => hj5 q k e1) hR2⟩
        rw [e5 q k e, g2 q k (by unfold sC at e; omega)]
      · have val : ∀ r, beA w r = -1 := fun r => by
          unfold beA
          rw [if_neg (show ¬ w = 0 by omega), if_neg (show ¬ w = 1 by omega), if_neg (show ¬ w = 2 by omega)]
          split <;> rfl
        simp (disch := first | assumption | omega) only [ly_csm, am_i_add, am_i_sub, am_i_mul, am_ok_i, am_i_cl, n_lt, n_le, n_eq, n_lt0, n_le0, n_0lt, n_0le, n_eq0, ne_eq, ↓reduceIte, not_true_eq_false, not_false_eq_true, and_true, true_and, and_false, false_and, eq_T, eq_F, lt_T, lt_F, le_T, le_F, qn_T, qn_F, and_F, b01_T, b01_F, e_isIn, Int32.toInt_toInt64, am_i_toInt, am_l_toInt, Int.toNat_natCast, Int.reduceToNat, Int.reduceAdd, Int.reduceSub, Int.reduceMul, Int.reduceNeg, Nat.reduceAdd, Nat.reduceMul, Nat.add_zero, Nat.mul_zero, Nat.zero_add, am_zb0, am_zb1, ↓Bool.cond_decide, cond_true, cond_false, ↓am_let_s, ↓bI_p, bIJ_s, ↓bV_p, bVJ_s, ↓bL_p, bLJ_s, ly_cf, Bool.and_self, Bool.and_true, rM hm2, mB, mA, b01_t hq.1, b01_t mAt, sg_X12_better_31]
        exact Wp_r ⟨I2, J, _, by rw [val], rfl, vV_s hV0 (fun q k e => g2 q k (by unfold sC at e; omega)) (fun _ _ _ _ => rfl) hR2⟩
    refine ⟨am_i (beA w (beF (fun t => laF last wf fm wd (nt b) v 0 (scS (s b) (t / 8) (t % 8))) (8 * nt b) 0 (-1) (laF last wf fm wd (nt b) v 0 (s b)))), ?_⟩
    rw [sg_X11_better_0]
    by_cases hnl : (s b).mi = last
    · simp (disch := first | assumption | omega) only [rX hx, ly_csx, ly_cax, ly_cf, ly_kd, ly_ln, ↓Bool.cond_decide, cond_true, cond_false, ↓bI_p, ↓bV_p, ↓bL_p, bIJ_s, bVJ_s, bLJ_s, ↓am_let_s, Nat.blt, Nat.ble, Bool.and_true, Bool.true_and, Bool.and_self, Int.cast_ofNat_Int, am_i_add, am_i_sub, am_i_mul, am_ok_i, am_i_cl, n_lt, n_le, n_eq, n_lt0, n_le0, n_0lt, n_0le, n_eq0, ne_eq, ↓reduceIte, not_true_eq_false, not_false_eq_true, and_true, true_and, and_false, false_and, eq_T, eq_F, lt_T, lt_F, le_T, le_F, qn_T, qn_F, and_F, b01_T, b01_F, e_isIn, Int32.toInt_toInt64, am_i_toInt, am_l_toInt, Int.toNat_natCast, Int.reduceToNat, Int.reduceAdd, Int.reduceSub, Int.reduceMul, Int.reduceNeg, Nat.reduceAdd, Nat.reduceMul, Nat.add_zero, Nat.mul_zero, Nat.zero_add, am_zb0, am_zb1, h4, rC hx hc, xB, xT, xL, b01_t hq.1, b01_t hq.2, b01_t hnl, sg_X11_better_24]
      have l0 : laF last wf fm wd (nt b) v 0 (s b) = 0 := by cases v <;> exact if_pos hnl
      have v0 : ∀ t, laF last wf fm wd (nt b) v 0 (scS (s b) (t / 8) (t % 8)) = 0 := fun t => by cases v <;> exact if_pos hnl
      refine Wp_r ⟨I, J, R, ?_, rfl, rfl, rfl, mod I R (rR_r hmu) (fun _ _ _ => rfl)⟩
      rw [l0, beF_0 v0]
      rfl
    · simp (disch := first | assumption | omega) only [rX hx, ly_csx, ly_cax, ly_cf, ly_kd, ly_ln, ↓Bool.cond_decide, cond_true, cond_false, ↓bI_p, ↓bV_p, ↓bL_p, bIJ_s, bVJ_s, bLJ_s, ↓am_let_s, Nat.blt, Nat.ble, Bool.and_true, Bool.true_and, Bool.and_self, Int.cast_ofNat_Int, am_i_add, am_i_sub, am_i_mul, am_ok_i, am_i_cl, n_lt, n_le, n_eq, n_lt0, n_le0, n_0lt, n_0le, n_eq0, ne_eq, ↓reduceIte, not_true_eq_false, not_false_eq_true, and_true, true_and, and_false, false_and, eq_T, eq_F, lt_T, lt_F, le_T, le_F, qn_T, qn_F, and_F, b01_T, b01_F, e_isIn, Int32.toInt_toInt64, am_i_toInt, am_l_toInt, Int.toNat_natCast, Int.reduceToNat, Int.reduceAdd, Int.reduceSub, Int.reduceMul, Int.reduceNeg, Nat.reduceAdd, Nat.reduceMul, Nat.add_zero, Nat.mul_zero, Nat.zero_add, am_zb0, am_zb1, h4, rC hx hc, xB, xT, xL, b01_t hq.1, b01_t hq.2, b01_f hnl]
      refine Wp_V (x_load (s := s b) hx (Or.inl rfl) hc (by omega) n1 n6 hO.2.2.2.1 hb1) ?_
      rintro _ _ ⟨I1, rfl, rfl, hf1, hH⟩
      refine ⟨rfl, ?_⟩
      have hXx1 : cxX c last wd wf fm I1 := cxX_c hc (fun q k a1 a2 => hf1 q k (hS_f.mpr (by omega))) hXx
      simp (disch := first | assumption | omega) only [am_i_add, am_i_sub, am_i_mul, am_ok_i, am_i_cl, n_lt, n_le, n_eq, n_lt0, n_le0, n_0lt, n_0le, n_eq0, ne_eq, ↓reduceIte, not_true_eq_false, not_false_eq_true, and_true, true_and, and_false, false_and, eq_T, eq_F, lt_T, lt_F, le_T, le_F, qn_T, qn_F, and_F, b01_T, b01_F, e_isIn, Int32.toInt_toInt64, am_i_toInt, am_l_toInt, Int.toNat_natCast, Int.reduceToNat, Int.reduceAdd, Int.reduceSub, Int.reduceMul, Int.reduceNeg, Nat.reduceAdd, Nat.reduceMul, Nat.add_zero, Nat.mul_zero, Nat.zero_add, am_zb0, am_zb1, ↓Bool.cond_decide, cond_true, cond_false, ↓am_let_s, ↓bI_p, bIJ_s, ↓bV_p, bVJ_s, ↓bL_p, bLJ_s, ly_cf, Bool.and_self, Bool.and_true, rX hx1]
      refine Wp_I (Wp_e (sg_X5_landsBehind_0 _ _ _ _) (x_lb (d := d + 1) (z := v) hx1 (Or.inl rfl) hc am_up_e n6 (by omega) v 0 (s b) I1 (by omega) hXx1 hO hH)) ?_
      rintro _ _ ⟨I2, rfl, rfl, hf2⟩
      refine ⟨_, rfl, ?_⟩
      have g2 : ∀ q k, ¬ (35 ≤ q ∧ q ≤ 41) → I2 q k = I q k := fun q k e => by
        rw [hf2 q k (hS_f.mpr (by omega)), hf1 q k (hS_f.mpr (by omega))]
      have h1 := laF_1 (last := last) (wf := wf) (fm := fm) (u := wd) (n := nt b) (m := v) (x := s b) hnl
      have lp := x_be (d := d + 1) (J := J) (R0 := R) (I0 := I) (x := s b) (z := v) (w := w) (last := last) (wd := wd) (wf := wf) (fm := fm) hx h4 hc n6 (by omega) w1 w2 (show b < 6 by omega) hXx hO hnl n1 hb1 (8 * nt b) 0 (-1) (laF last wf fm wd (nt b) v 0 (s b)) I2 (am_up R 35 1 c) (by omega) hR1 g2 (Or.inl rfl) h1 (fun e => absurd rfl e)
      have fin : Wp (fun q M => ∃ I1 J1 R1, q = some (.int (am_i (beA w (beF (fun t => laF last wf fm wd (nt b) v 0 (scS (s b) (t / 8) (t % 8))) (8 * nt b) 0 (-1) (laF last wf fm wd (nt b) v 0 (s b)))))) ∧ M = (I1, J1, R1, 138) ∧ I1 1 = I 1 ∧ R1 0 0 = R 0 0 ∧ Wp (fun q' M' => ∃ I2 J2 R2, q' = some (.int (am_i (beA w (beF (fun t => laF last wf fm wd (nt b) v 0 (scS (s b) (t / 8) (t % 8))) (8 * nt b) 0 (-1) (laF last wf fm wd (nt b) v 0 (s b)))))) ∧ M' = (I2, J2, R2, 138) ∧ vV restW L xs I2 J2 R2) (am_E (d + 9) 236 0 [(0, .ref 64), (1, .int (am_i b)), (2, .int (am_i v)), (3, .int (am_i w))] [] (I1, J1, R1, 138))) (am_E (d + 9) 118 74 [(0, .ref 3), (1, .int (am_i b)), (3, .int (am_i w)), (5, .int (am_i (if laF last wf fm wd (nt b) v 0 (s b) = -1 then (v : Int) + 1 else laF last wf fm wd (nt b) v 0 (s b)))), (6, .int (am_i (-1))), (7, .int (am_i ((0 : Nat) : Int)))] [] (I2, J, am_up R 35 1 c, 138)) := by
        refine Wp_m lp ?_
        rintro _ _ ⟨I3, R3, rfl, rfl, hR3, g3⟩
        exact ⟨I3, J, R3, rfl, rfl, funext (fun k => g3 1 k (by omega)), hR3.1 _ _ (by omega), mod I3 R3 hR3 g3⟩
      generalize laF last wf fm wd (nt b) v 0 (s b) = SS at *
      by_cases q1 : SS = -1
      · subst q1
        rw [if_pos rfl] at fin
        simp (disch := first | assumption | omega) only [am_i_add, am_i_sub, am_i_mul, am_ok_i, am_i_cl, n_lt, n_le, n_eq, n_lt0, n_le0, n_0lt, n_0le, n_eq0, ne_eq, ↓reduceIte, not_true_eq_false, not_false_eq_true, and_true, true_and, and_false, false_and, eq_T, eq_F, lt_T, lt_F, le_T, le_F, qn_T, qn_F, and_F, b01_T, b01_F, e_isIn, Int32.toInt_toInt64, am_i_toInt, am_l_toInt, Int.toNat_natCast, Int.reduceToNat, Int.reduceAdd, Int.reduceSub, Int.reduceMul, Int.reduceNeg, Nat.reduceAdd, Nat.reduceMul, Nat.add_zero, Nat.mul_zero, Nat.zero_add, am_zb0, am_zb1, ↓Bool.cond_decide, cond_true, cond_false, ↓am_let_s, ↓bI_p, bIJ_s, ↓bV_p, bVJ_s, ↓bL_p, bLJ_s, ly_cf, Bool.and_self, Bool.and_true]
        exact fin
      · rw [if_neg q1] at fin
        simp (disch := first | assumption | omega) only [am_i_add, am_i_sub, am_i_mul, am_ok_i, am_i_cl, n_lt, n_le, n_eq, n_lt0, n_le0, n_0lt, n_0le, n_eq0, ne_eq, ↓reduceIte, not_true_eq_false, not_false_eq_true, and_true, true_and, and_false, false_and, eq_T, eq_F, lt_T, lt_F, le_T, le_F, qn_T, qn_F, and_F, b01_T, b01_F, e_isIn, Int32.toInt_toInt64, am_i_toInt, am_l_toInt, Int.toNat_natCast, Int.reduceToNat, Int.reduceAdd, Int.reduceSub, Int.reduceMul, Int.reduceNeg, Nat.reduceAdd, Nat.reduceMul, Nat.add_zero, Nat.mul_zero, Nat.zero_add, am_zb0, am_zb1, ↓Bool.cond_decide, cond_true, cond_false, ↓am_let_s, ↓bI_p, bIJ_s, ↓bV_p, bVJ_s, ↓bL_p, bLJ_s, ly_cf, Bool.and_self, Bool.and_true]
        exact fin
  · refine ⟨am_i (-1), ?_⟩
    have mB := fun d => e_misBoat d (am_i z) nb I J R hm b3 m1
    have mA : ∀ d, am_E (d + 2) 215 0 [(0, .ref 64), (1, .int (am_i y)), (2, .int (am_i 1)), (3, .int (am_i 30))] [] (I, J, R, 138) = _ := fun d => m_isAhead (d := d) (J := J) (z := y) (lo := 1) (hi := 30) (last := last) hm hh g0 mS y1 y2 (by omega) (by omega)
    have cl : am_E (d + 9) 118 0 [(0, .ref 3), (1, .int (am_i z)), (2, .int (am_i y)), (3, .int (am_i w))] [] (I, J, R, 138) = some (some (.int (am_i (-1))), (I, J, R, 138)) := by
      rw [sg_X11_better_0]
      by_cases h1 : 0 ≤ z ∧ z < nb
      · have h2 : ¬ (1 ≤ y ∧ y ≤ (min 30 (999 - h) : Nat)) := fun e => hq ⟨h1, e⟩
        simp (disch := first | assumption | omega) only [rX hx, ly_csx, ly_cax, ly_cf, ly_kd, ly_ln, ↓Bool.cond_decide, cond_true, cond_false, ↓bI_p, ↓bV_p, ↓bL_p, bIJ_s, bVJ_s, bLJ_s, ↓am_let_s, Nat.blt, Nat.ble, Bool.and_true, Bool.true_and, Bool.and_self, Int.cast_ofNat_Int, am_i_add, am_i_sub, am_i_mul, am_ok_i, am_i_cl, n_lt, n_le, n_eq, n_lt0, n_le0, n_0lt, n_0le, n_eq0, ne_eq, ↓reduceIte, not_true_eq_false, not_false_eq_true, and_true, true_and, and_false, false_and, eq_T, eq_F, lt_T, lt_F, le_T, le_F, qn_T, qn_F, and_F, b01_T, b01_F, e_isIn, Int32.toInt_toInt64, am_i_toInt, am_l_toInt, Int.toNat_natCast, Int.reduceToNat, Int.reduceAdd, Int.reduceSub, Int.reduceMul, Int.reduceNeg, Nat.reduceAdd, Nat.reduceMul, Nat.add_zero, Nat.mul_zero, Nat.zero_add, am_zb0, am_zb1, h4, rC hx hc, xB, xT, b01_t h1, b01_f h2, sg_X11_better_24]
      · simp (disch := first | assumption | omega) only [rX hx, ly_csx, ly_cax, ly_cf, ly_kd, ly_ln, ↓Bool.cond_decide, cond_true, cond_false, ↓bI_p, ↓bV_p, ↓bL_p, bIJ_s, bVJ_s, bLJ_s, ↓am_let_s, Nat.blt, Nat.ble, Bool.and_true, Bool.true_and, Bool.and_self, Int.cast_ofNat_Int, am_i_add, am_i_sub, am_i_mul, am_ok_i, am_i_cl, n_lt, n_le, n_eq, n_lt0, n_le0, n_0lt, n_0le, n_eq0, ne_eq, ↓reduceIte, not_true_eq_false, not_false_eq_true, and_true, true_and, and_false, false_and, eq_T, eq_F, lt_T, lt_F, le_T, le_F, qn_T, qn_F, and_F, b01_T, b01_F, e_isIn, Int32.toInt_toInt64, am_i_toInt, am_l_toInt, Int.toNat_natCast, Int.reduceToNat, Int.reduceAdd, Int.reduceSub, Int.reduceMul, Int.reduceNeg, Nat.reduceAdd, Nat.reduceMul, Nat.add_zero, Nat.mul_zero, Nat.zero_add, am_zb0, am_zb1, h4, rC hx hc, xB, b01_f h1, sg_X11_better_24]
    refine Wp_e cl (Wp_r ⟨I, J, R, rfl, rfl, rfl, rfl, ?_⟩)
    have cm : am_E (d + 9) 236 0 [(0, .ref 64), (1, .int (am_i z)), (2, .int (am_i y)), (3, .int (am_i w))] [] (I, J, R, 138) = some (some (.int (am_i (-1))), (I, J, R, 138)) := by
      rw [sg_X12_better_0]
      by_cases h1 : 0 ≤ z ∧ z < nb
      · have ma : ¬ (last ≠ 0 ∧ (((1 : Nat) : Int)) ≤ y ∧ y ≤ ((30 : Nat) : Int) ∧ (h : Int) + y ≤ 999) := by omega
        simp (disch := first | assumption | omega) only [rM hm, ly_csm, ly_cam, ly_cf, ly_kd, ly_ln, ↓Bool.cond_decide, cond_true, cond_false, ↓bI_p, ↓bV_p, ↓bL_p, bIJ_s, bVJ_s, bLJ_s, ↓am_let_s, Nat.blt, Nat.ble, Bool.and_true, Bool.true_and, Bool.and_self, Int.cast_ofNat_Int, am_i_add, am_i_sub, am_i_mul, am_ok_i, am_i_cl, n_lt, n_le, n_eq, n_lt0, n_le0, n_0lt, n_0le, n_eq0, ne_eq, ↓reduceIte, not_true_eq_false, not_false_eq_true, and_true, true_and, and_false, false_and, eq_T, eq_F, lt_T, lt_F, le_T, le_F, qn_T, qn_F, and_F, b01_T, b01_F, e_isIn, Int32.toInt_toInt64, am_i_toInt, am_l_toInt, Int.toNat_natCast, Int.reduceToNat, Int.reduceAdd, Int.reduceSub, Int.reduceMul, Int.reduceNeg, Nat.reduceAdd, Nat.reduceMul, Nat.add_zero, Nat.mul_zero, Nat.zero_add, am_zb0, am_zb1, mB, mA, b01_t h1, b01_f ma, sg_X12_better_31]
      · simp (disch := first | assumption | omega) only [rM hm, ly_csm, ly_cam, ly_cf, ly_kd, ly_ln, ↓Bool.cond_decide, cond_true, cond_false, ↓bI_p, ↓bV_p, ↓bL_p, bIJ_s, bVJ_s, bLJ_s, ↓am_let_s, Nat.blt, Nat.ble, Bool.and_true, Bool.true_and, Bool.and_self, Int.cast_ofNat_Int, am_i_add, am_i_sub, am_i_mul, am_ok_i, am_i_cl, n_lt, n_le, n_eq, n_lt0, n_le0, n_0lt, n_0le, n_eq0, ne_eq, ↓reduceIte, not_true_eq_false, not_false_eq_true, and_true, true_and, and_false, false_and, eq_T, eq_F, lt_T, lt_F, le_T, le_F, qn_T, qn_F, and_F, b01_T, b01_F, e_isIn, Int32.toInt_toInt64, am_i_toInt, am_l_toInt, Int.toNat_natCast, Int.reduceToNat, Int.reduceAdd, Int.reduceSub, Int.reduceMul, Int.reduceNeg, Nat.reduceAdd, Nat.reduceMul, Nat.add_zero, Nat.mul_zero, Nat.zero_add, am_zb0, am_zb1, mB, b01_f h1, sg_X12_better_31]
    exact Wp_e cm (Wp_r ⟨I, J, R, rfl, rfl, hV0⟩)
end PBET
