/-! ===== a sound as a text: the class's readers, whichever way it went before ===== -/
/-- the scanner behind a reader -/
def xR (T : Nat → Nat) (n : Nat) (r : Nat × Nat) (I : tI) : Prop := (r.1 = 0 → scX T n r.2 I ∧ r.2 ≤ n ∧ I 5 11 = am_i (-1)) ∧ (r.1 ≠ 0 → xFt r.1 r.2 I ∧ r.1 ≤ 9)
section XSD
variable {d : Nat} {J : tJ} {R : tR} {T : Nat → Nat} {n p : Nat} {I I' : tI} {r : Nat × Nat} {X : sSt}
theorem aW_b {w : Nat} (hp : p ≤ n) : ((aW T n p w).1 = 0 → tW T n p = w ∧ (aW T n p w).2 = tE T n p ∧ p < (aW T n p w).2 ∧ (aW T n p w).2 ≤ n) ∧ (aW T n p w).1 ≤ 1 := by
  unfold aW
  by_cases q : tW T n p = w
  · rw [if_pos q]
    have := tE_wd q hp
    exact ⟨fun _ => ⟨q, rfl, this⟩, by show 0 ≤ 1; omega⟩
  · rw [if_neg q]
    exact ⟨fun h => absurd h (by show ¬ (1 = 0); omega), by show 1 ≤ 1; omega⟩
theorem aN_b {lo hi : Nat} (hp : p ≤ n) : ((aN T n p lo hi).1 = 0 → tK T n p = 2 ∧ tN T n p ≤ 4 ∧ lo ≤ tV T n p ∧ tV T n p ≤ hi ∧ (aN T n p lo hi).2 = tE T n p ∧ p < (aN T n p lo hi).2 ∧ (aN T n p lo hi).2 ≤ n) ∧ (aN T n p lo hi).1 ≤ 2 := by
  unfold aN
  by_cases k2 : tK T n p = 2
  · rw [if_pos k2]
    have te := tE_s hp (show tK T n p ≠ 0 by omega)
    by_cases q4 : 4 < tN T n p
    · rw [if_pos q4]
      exact ⟨fun h => absurd h (by show ¬ (1 = 0); omega), by show 1 ≤ 2; omega⟩
    · rw [if_neg q4]
      by_cases q : tV T n p < lo ∨ hi < tV T n p
      · rw [if_pos q]
        exact ⟨fun h => absurd h (by show ¬ (2 = 0); omega), by show 2 ≤ 2; omega⟩
      · rw [if_neg q]
        exact ⟨fun _ => ⟨k2, by omega, by omega, by omega, rfl, te⟩, by show 0 ≤ 2; omega⟩
  · rw [if_neg k2]
    exact ⟨fun h => absurd h (by show ¬ (1 = 0); omega), by show 1 ≤ 2; omega⟩
theorem aM_b (hp : p ≤ n) : ((aM T n p).1 = 0 → p < (aM T n p).2 ∧ (aM T n p).2 ≤ n) ∧ (aM T n p).1 ≤ 1 := by
  refine ⟨fun h => ?_, ?_⟩
  · obtain ⟨k1, -, -, e⟩ := tL_b h
    rw [e]
    exact tE_s hp (by omega)
  · unfold aM
    repeat' split
    all_goals (first | (show 0 ≤ 1; omega) | (show 1 ≤ 1; omega))
theorem aK_b (hp : p ≤ n) : ((aK T n p X).1 = 0 → (aM T n p).1 = 0 ∧ ¬ tL T n p ∈ sNm X ∧ (aK T n p X).2 = tE T n p ∧ p < (aK T n p X).2 ∧ (aK T n p X).2 ≤ n) ∧ (aK T n p X).1 ≤ 3 := by
  have b := aM_b (T := T) hp
  unfold aK
  by_cases q : (aM T n p).1 = 0
  · rw [rS_0 q]
    by_cases m : tL T n p ∈ sNm X
    · rw [if_pos m]
      exact ⟨fun h => absurd h (by show ¬ (3 = 0); omega), by show 3 ≤ 3; omega⟩
    · rw [if_neg m]
      exact ⟨fun _ => ⟨q, m, (tL_b q).2.2.2, b.1 q⟩, by show 0 ≤ 3; omega⟩
  · rw [rS_n q]
    exact ⟨fun h => absurd h q, by omega⟩
theorem xR_i (h : rdX T n r I I') (h11 : I 5 11 = am_i (-1)) (hb : (r.1 = 0 → r.2 ≤ n) ∧ r.1 ≤ 9) : xR T n r I' := ⟨fun e => ⟨(h.1 e).1, hb.1 e, by rw [(h.1 e).2]; exact h11⟩, fun e => ⟨h.2 e, hb.2⟩⟩
theorem x_rS (hx : st_Rx R) (hT : txX T n I R) (h : xR T n r I) {c : Nat} (hc : c < 256) : ∃ I', am_E (d + 5) 85 0 [(0, .ref 5), (1, .int (am_i c))] [] (I, J, R, 138) = some (none, (I', J, R, 138)) ∧ xR T n (rS r (fun p => aS T n p c)) I' ∧ ∀ q j, q ≠ 5 → I' q j = I q j := by
  by_cases q : r.1 = 0
  · obtain ⟨h1, h2, h3⟩ := h.1 q
    obtain ⟨I', a1, a2, a3⟩ := x_needSign (d := d) (J := J) hx hT h2 h1 hc
    rw [rS_0 q]
    have b := aS_b (T := T) (c := c) h2
    exact ⟨I', a1, xR_i a2 h3 ⟨fun e => (b.1 e).2.2.2, by omega⟩, a3⟩
  · obtain ⟨h1, h2⟩ := h.2 q
    rw [rS_n q]
    exact ⟨I, x_needSignF h1 q h2 hc, h, fun _ _ _ => rfl⟩
theorem x_rW (hx : st_Rx R) (hT : txX T n I R) (h : xR T n r I) {w : Nat} (hw : w < 32) : ∃ I', am_E (d + 5) 86 0 [(0, .ref 5), (1, .int (am_i w))] [] (I, J, R, 138) = some (none, (I', J, R, 138)) ∧ xR T n (rS r (fun p => aW T n p w)) I' ∧ ∀ q j, q ≠ 5 → I' q j = I q j := by
  by_cases q : r.1 = 0
  · obtain ⟨h1, h2, h3⟩ := h.1 q
    obtain ⟨I', a1, a2, a3⟩ := x_needWord (d := d) (J := J) hx hT h2 h1 hw
    rw [rS_0 q]
    have b := aW_b (T := T) (w := w) h2
    exact ⟨I', a1, xR_i a2 h3 ⟨fun e => (b.1 e).2.2.2, by omega⟩, a3⟩
  · obtain ⟨h1, h2⟩ := h.2 q
    rw [rS_n q]
    exact ⟨I, x_needWordF h1 q h2 hw, h, fun _ _ _ => rfl⟩
theorem x_rN (hx : st_Rx R) (hT : txX T n I R) (h : xR T n r I) {lo hi : Nat} (hlo : lo ≤ 10000) (hhi : hi ≤ 10000) : ∃ (v : Nat) (I' : tI), am_E (d + 5) 87 0 [(0, .ref 5), (1, .int (am_i lo)), (2, .int (am_i hi))] [] (I, J, R, 138) = some (some (.int (am_i v)), (I', J, R, 138)) ∧ ((rS r (fun p => aN T n p lo hi)).1 = 0 → v = tV T n r.2) ∧ ((rS r (fun p => aN T n p lo hi)).1 ≠ 0 → v = lo) ∧ xR T n (rS r (fun p => aN T n p lo hi)) I' ∧ ∀ q j, q ≠ 5 → I' q j = I q j := by
  by_cases q : r.1 = 0
  · obtain ⟨h1, h2, h3⟩ := h.1 q
    obtain ⟨I', a1, a2, a3⟩ := x_needNumber (d := d) (J := J) hx hT h2 h1 hlo hhi
    rw [rS_0 q]
    have b := aN_b (T := T) (lo := lo) (hi := hi) h2
    exact ⟨_, I', a1, fun e => if_pos e, fun e => if_neg e, xR_i a2 h3 ⟨fun e => (b.1 e).2.2.2.2.2.2, by omega⟩, a3⟩
  · obtain ⟨h1, h2⟩ := h.2 q
    rw [rS_n q]
    exact ⟨lo, I, x_needNumberF h1 q h2, fun e => absurd e q, fun _ => rfl, h, fun _ _ _ => rfl⟩
theorem x_rX (hx : st_Rx R) (hT : txX T n I R) (h : xR T n r I) (hk : r.1 = 0 → tK T n r.2 ≠ 4) : ∃ I', am_E (d + 4) 73 0 [(0, .ref 5)] [] (I, J, R, 138) = some (none, (I', J, R, 138)) ∧ xR T n (rS r (fun p => (0, tE T n p))) I' ∧ ∀ q j, q ≠ 5 → I' q j = I q j := by
  by_cases q : r.1 = 0
  · obtain ⟨h1, h2, h3⟩ := h.1 q
    obtain ⟨I', a1, a2, a3, a4⟩ := x_go (d := d) (J := J) hx hT h2 h1 (hk q)
    rw [rS_0 q]
    exact ⟨I', a1, ⟨fun _ => ⟨a2, (tE_b (T := T) h2).2.1, by rw [a3]; exact h3⟩, fun e => absurd rfl e⟩, a4⟩
  · obtain ⟨h1, h2⟩ := h.2 q
    rw [rS_n q]
    exact ⟨I, x_nxF h1.2.1 q h2, h, fun _ _ _ => rfl⟩
/-- fails, if nothing has failed yet -/
theorem x_rF (h : xR T n r I) {e : Nat} {pl : Nat} {v : Int32} (hv : r.1 = 0 → v = am_i pl) (he : e ≠ 0) (he9 : e ≤ 9) : ∃ I', (∀ d, am_E (d + 1) 71 0 [(0, .ref 5), (1, .int (am_i e)), (2, .int v)] [] (I, J, R, 138) = some (none, (I', J, R, 138))) ∧ xR T n (rS r (fun _ => (e, pl))) I' ∧ ∀ q j, q ≠ 5 → I' q j = I q j := by
  by_cases q : r.1 = 0
  · obtain ⟨h1, h2, h3⟩ := h.1 q
    rw [rS_0 q, hv q]
    exact ⟨_, fun d => x_fl h1.2.2.2.2.1, ⟨fun c => absurd c he, fun _ => ⟨fl_x, he9⟩⟩, fun q j e => fl_f e⟩
  · obtain ⟨h1, h2⟩ := h.2 q
    rw [rS_n q]
    exact ⟨I, fun d => x_flF h1.2.1 q h2, h, fun _ _ _ => rfl⟩
theorem x_needName (hT : txX T n I R) (hp : p ≤ n) (h : scX T n p I) : ∃ I', (∀ d, am_E (d + 3) 88 0 [(0, .ref 5)] [] (I, J, R, 138) = some (none, (I', J, R, 138))) ∧ ((aM T n p).1 = 0 → I' = I) ∧ ((aM T n p).1 ≠ 0 → xFt (aM T n p).1 (aM T n p).2 I') ∧ ∀ q j, q ≠ 5 → I' q j = I q j := by
  have h5 := h.2.2.2.1
  have h10 := h.2.2.2.2.1
  have h4 := h.2.2.1
  have kb := tK_b (T := T) (n := n) (p := p)
  have n1 := hT.1
  have fh := fun d => x_flH (d := d) (J := J) (R := R) (I := I) h10
  rw [h4] at fh
  have fh1 : xFt 1 (tAt T n p) (am_up (am_up (am_up I 5 10 (am_i 1)) 5 11 (am_i (tAt T n p))) 5 5 (am_i 4)) := fl_x (e := 1)
  unfold aM
  by_cases k1 : tK T n p = 1
  · rw [k1] at h5
    have h5' : I 5 5 = am_i 1 := h5
    obtain ⟨h6, h8, h9⟩ := h.2.2.2.2.2.1 k1
    have ab := tAt_b (T := T) hp
    have eb := tE_b (T := T) hp
    have tn : tN T n p ≤ 1600 := by unfold tN; omega
    rw [if_pos k1]
    by_cases q6 : 6 < tN T n p
    · rw [if_pos q6]
      have ff : ∀ d, am_E (d + 1) 71 0 [(0, .ref 5), (1, .int (am_i 1)), (2, .int (am_i (tAt T n p + 6 : Nat)))] [] (I, J, R, 138) = some (none, (am_up (am_up (am_up I 5 10 (am_i 1)) 5 11 (am_i (tAt T n p + 6 : Nat))) 5 5 (am_i 4), J, R, 138)) := fun d => x_fl (e := 1) h10
      have ea : am_i ((tAt T n p : Int) + 6) = am_i (tAt T n p + 6 : Nat) := rfl
      refine ⟨_, fun d => ?_, fun c => absurd c (by show ¬ ((1 : Nat) = 0); decide), fun _ => fl_x (e := 1), fun q j e => fl_f e⟩
      rw [sg_X9_needName_0]
      simp (disch := first | assumption | omega) only [↓Bool.cond_decide, cond_true, cond_false, ↓am_let_s, ↓bI_p, bIJ_s, ↓bV_p, bVJ_s, ↓bL_p, bLJ_s, ly_cf, Bool.and_self, Bool.and_true, am_i_add, am_i_sub, am_i_mul, am_ok_i, am_i_cl, n_lt, n_le, n_eq, n_lt0, n_le0, n_0lt, n_0le, n_eq0, ne_eq, ↓reduceIte, not_true_eq_false, not_false_eq_true, and_true, true_and, and_false, false_and, eq_T, eq_F, lt_T, lt_F, le_T, le_F, qn_T, qn_F, and_F, b01_T, b01_F, e_isIn, Int32.toInt_toInt64, am_i_toInt, am_l_toInt, Int.toNat_natCast, Int.reduceToNat, Int.reduceAdd, Int.reduceSub, Int.reduceMul, Int.reduceNeg, Nat.reduceAdd, Nat.reduceMul, Nat.add_zero, Nat.mul_zero, Nat.zero_add, am_zb0, am_zb1, h5', h6, h4, ea, ff, sg_X9_needName_59]
      rfl
    · rw [if_neg q6]
      have ew : tW T n p = wix (tL T n p) := if_pos k1
      have wb := tW_b (T := T) (n := n) (p := p)
      rw [← ew] at h8
      by_cases q : 0 ≤ tW T n p ∧ tW T n p < 26
      · rw [if_pos q]
        refine ⟨_, fun d => ?_, fun c => absurd c (by show ¬ ((1 : Nat) = 0); decide), fun _ => fh1, fun q j e => fl_f e⟩
        rw [sg_X9_needName_0]
        simp (disch := first | assumption | omega) only [↓Bool.cond_decide, cond_true, cond_false, ↓am_let_s, ↓bI_p, bIJ_s, ↓bV_p, bVJ_s, ↓bL_p, bLJ_s, ly_cf, Bool.and_self, Bool.and_true, am_i_add, am_i_sub, am_i_mul, am_ok_i, am_i_cl, n_lt, n_le, n_eq, n_lt0, n_le0, n_0lt, n_0le, n_eq0, ne_eq, ↓reduceIte, not_true_eq_false, not_false_eq_true, and_true, true_and, and_false, false_and, eq_T, eq_F, lt_T, lt_F, le_T, le_F, qn_T, qn_F, and_F, b01_T, b01_F, e_isIn, Int32.toInt_toInt64, am_i_toInt, am_l_toInt, Int.toNat_natCast, Int.reduceToNat, Int.reduceAdd, Int.reduceSub, Int.reduceMul, Int.reduceNeg, Nat.reduceAdd, Nat.reduceMul, Nat.add_zero, Nat.mul_zero, Nat.zero_add, am_zb0, am_zb1, h5', h6, h8, fh, sg_X9_needName_59]
      · rw [if_neg q]
        refine ⟨I, fun d => ?_, fun _ => rfl, fun c => absurd rfl c, fun _ _ _ => rfl⟩
        rw [sg_X9_needName_0]
        by_cases q0 : tW T n p < 0
        · simp (disch := first | assumption | omega) only [↓Bool.cond_decide, cond_true, cond_false, ↓am_let_s, ↓bI_p, bIJ_s, ↓bV_p, bVJ_s, ↓bL_p, bLJ_s, ly_cf, Bool.and_self, Bool.and_true, am_i_add, am_i_sub, am_i_mul, am_ok_i, am_i_cl, n_lt, n_le, n_eq, n_lt0, n_le0, n_0lt, n_0le, n_eq0, ne_eq, ↓reduceIte, not_true_eq_false, not_false_eq_true, and_true, true_and, and_false, false_and, eq_T, eq_F, lt_T, lt_F, le_T, le_F, qn_T, qn_F, and_F, b01_T, b01_F, e_isIn, Int32.toInt_toInt64, am_i_toInt, am_l_toInt, Int.toNat_natCast, Int.reduceToNat, Int.reduceAdd, Int.reduceSub, Int.reduceMul, Int.reduceNeg, Nat.reduceAdd, Nat.reduceMul, Nat.add_zero, Nat.mul_zero, Nat.zero_add, am_zb0, am_zb1, h5', h6, h8, sg_X9_needName_59]
        · simp (disch := first | assumption | omega) only [↓Bool.cond_decide, cond_true, cond_false, ↓am_let_s, ↓bI_p, bIJ_s, ↓bV_p, bVJ_s, ↓bL_p, bLJ_s, ly_cf, Bool.and_self, Bool.and_true, am_i_add, am_i_sub, am_i_mul, am_ok_i, am_i_cl, n_lt, n_le, n_eq, n_lt0, n_le0, n_0lt, n_0le, n_eq0, ne_eq, ↓reduceIte, not_true_eq_false, not_false_eq_true, and_true, true_and, and_false, false_and, eq_T, eq_F, lt_T, lt_F, le_T, le_F, qn_T, qn_F, and_F, b01_T, b01_F, e_isIn, Int32.toInt_toInt64, am_i_toInt, am_l_toInt, Int.toNat_natCast, Int.reduceToNat, Int.reduceAdd, Int.reduceSub, Int.reduceMul, Int.reduceNeg, Nat.reduceAdd, Nat.reduceMul, Nat.add_zero, Nat.mul_zero, Nat.zero_add, am_zb0, am_zb1, h5', h6, h8, sg_X9_needName_59]
  · rw [if_neg k1]
    refine ⟨_, fun d => ?_, fun c => absurd c (by show ¬ ((1 : Nat) = 0); decide), fun _ => fh1, fun q j e => fl_f e⟩
    rw [sg_X9_needName_0]
    simp (disch := first | assumption | omega) only [↓Bool.cond_decide, cond_true, cond_false, ↓am_let_s, ↓bI_p, bIJ_s, ↓bV_p, bVJ_s, ↓bL_p, bLJ_s, ly_cf, Bool.and_self, Bool.and_true, am_i_add, am_i_sub, am_i_mul, am_ok_i, am_i_cl, n_lt, n_le, n_eq, n_lt0, n_le0, n_0lt, n_0le, n_eq0, ne_eq, ↓reduceIte, not_true_eq_false, not_false_eq_true, and_true, true_and, and_false, false_and, eq_T, eq_F, lt_T, lt_F, le_T, le_F, qn_T, qn_F, and_F, b01_T, b01_F, e_isIn, Int32.toInt_toInt64, am_i_toInt, am_l_toInt, Int.toNat_natCast, Int.reduceToNat, Int.reduceAdd, Int.reduceSub, Int.reduceMul, Int.reduceNeg, Nat.reduceAdd, Nat.reduceMul, Nat.add_zero, Nat.mul_zero, Nat.zero_add, am_zb0, am_zb1, h5, fh, sg_X9_needName_59]
end XSD
