/-! ===== the class's hour over all boats ===== -/
def xHc (q : Nat) : Prop := q = 31 ∨ q = 32 ∨ (35 ≤ q ∧ q ≤ 41)
theorem keptX_c {f ring f' ring' : Nat → Int32} {L : List ent} (h : keptX f ring L) (e1 : f' 67 = f 67) (e2 : ∀ k, ring' k = ring k) : keptX f' ring' L := by
  refine ⟨by rw [e1]; exact h.1, fun k hk e he => ?_⟩
  rw [e2]
  exact h.2 k hk e he
section XHL
variable {d : Nat} {J : tJ} {R0 : tR} {c last wd nb : Nat} {nt wf : Nat → Nat} {fm : Nat → List tok} {s : Nat → bt} {u h : Nat}
theorem entB_l (b : Nat) : (entB last wf fm u h nt s b).length ≤ 1 := by
  unfold entB
  repeat' split
  all_goals simp
theorem entF_l : ∀ (n i : Nat), (entF (entB last wf fm u h nt s) i n).length ≤ n
  | 0, _ => Nat.le_refl _
  | n + 1, i => by
    show (entB last wf fm u h nt s i ++ entF (entB last wf fm u h nt s) (i + 1) n).length ≤ n + 1
    rw [List.length_append]
    have := entB_l (last := last) (wf := wf) (fm := fm) (u := u) (h := h) (nt := nt) (s := s) i
    have := entF_l n (i + 1)
    omega
theorem x_hloop {I0 : tI} (hx0 : st_Rx R0) (h40 : R0 3 4 = c) (hc : c = 10 ∨ c = 20) (hu : u ≤ 9) (hh : h ≤ 998) (h6 : nb ≤ 6) (hX : cxX c last wd wf fm I0) (hI1 : I0 c 1 = am_i nb) (hnt : ∀ b, b < nb → nt b ≤ 6 ∧ I0 (c + 4) b = am_i (nt b)) (hO : ∀ b, b < nb → bOK last (nt b) (s b)) :
    ∀ (n i : Nat) (I : tI) (R : tR) (L : List ent) (lm : Nat), i + n = nb → rR R0 R → (∀ q k, ¬ xHc q → I q k = I0 q k) → I 31 66 = am_i h → L.length + n ≤ 10000 → keptX (I 31) (I 32) L → (∀ b, i ≤ b → b < nb → bX (I 31) (11 * b) (nt b) (s b)) →
      Wp (fun r M => ∃ I' R', r = some (.int (am_i (lm + cnt (laB last wf fm u nt s) i n : Nat))) ∧ M = (I', J, R', 138) ∧ rR R0 R' ∧ (∀ q k, ¬ xHc q → I' q k = I0 q k) ∧ I' 31 66 = am_i (h + 1 : Nat) ∧ keptX (I' 31) (I' 32) (L ++ entF (entB last wf fm u h nt s) i n) ∧ (∀ b, i ≤ b → b < nb → bX (I' 31) (11 * b) (nt b) (paS last wf fm u (nt b) (s b))) ∧ (∀ k, k < 11 * i → I' 31 k = I 31 k) ∧ ∀ k, (∀ j, L.length ≤ j → j < L.length + (entF (entB last wf fm u h nt s) i n).length → k ≠ j % 256) → I' 32 k = I 32 k) (am_E (d + 8) 157 4 [(0, .ref 3), (1, .int (am_i u)), (2, .int (am_i lm)), (3, .int (am_i i))] [] (I, J, R, 138))
  | 0, i, I, R, L, lm, hi, hR, hI, h66, hL, hK, hB => by
    have hxR := rR_x hR hx0
    have h4R : R 3 4 = c := by rw [hR.1 _ _ (by omega)]; exact h40
    have e1 : I c 1 = am_i nb := by rw [hI _ _ (by unfold xHc; omega)]; exact hI1
    rw [sg_X11_passHour_4]
    simp (disch := first | assumption | omega) only [am_i_add, am_i_sub, am_i_mul, am_ok_i, am_i_cl, n_lt, n_le, n_eq, n_lt0, n_le0, n_0lt, n_0le, n_eq0, ne_eq, ↓reduceIte, not_true_eq_false, not_false_eq_true, and_true, true_and, and_false, false_and, eq_T, eq_F, lt_T, lt_F, le_T, le_F, qn_T, qn_F, and_F, b01_T, b01_F, e_isIn, Int32.toInt_toInt64, am_i_toInt, am_l_toInt, Int.toNat_natCast, Int.reduceToNat, Int.reduceAdd, Int.reduceSub, Int.reduceMul, Int.reduceNeg, Nat.reduceAdd, Nat.reduceMul, Nat.add_zero, Nat.mul_zero, Nat.zero_add, am_zb0, am_zb1, ↓Bool.cond_decide, cond_true, cond_false, ↓am_let_s, ↓bI_p, bIJ_s, ↓bV_p, bVJ_s, ↓bL_p, bLJ_s, ly_cf, Bool.and_self, Bool.and_true, ly_csx, ly_cax, rX hxR, h4R, rC hxR hc, e1, h66, am_i_s]
    refine Wp_r ⟨_, R, rfl, rfl, hR, fun q k a => ?_, am_up_e, ?_, fun b b1 b2 => absurd b2 (by omega), fun k hk => am_up_o (by omega), fun k _ => am_up_o (by omega)⟩
    · rw [am_up_o (fun e => a (Or.inl e.1)), hI q k a]
    · show keptX _ _ (L ++ [])
      rw [List.append_nil]
      exact keptX_c hK (am_up_o (by omega)) (fun k => am_up_o (by omega))
  | n + 1, i, I, R, L, lm, hi, hR, hI, h66, hL, hK, hB => by
    have hxR := rR_x hR hx0
    have h4R : R 3 4 = c := by rw [hR.1 _ _ (by omega)]; exact h40
    have e1 : I c 1 = am_i nb := by rw [hI _ _ (by unfold xHc; omega)]; exact hI1
    have hib : i < nb := by omega
    obtain ⟨n6, hn4⟩ := hnt i hib
    have hOi := hO i hib
    have hBi := hB i (Nat.le_refl _) hib
    have hl := hX.2.1
    /- behind boat i -/
    have next : ∀ I2 R2 L2 (lm2 : Nat), rR R0 R2 → (∀ q k, ¬ xHc q → I2 q k = I0 q k) → (∀ k, ¬ (11 * i ≤ k ∧ k ≤ 11 * i + 4) → k ≠ 67 → I2 31 k = I 31 k) → bX (I2 31) (11 * i) (nt i) (paS last wf fm u (nt i) (s i)) → lm2 = lm + laB last wf fm u nt s i → L2 = L ++ entB last wf fm u h nt s i → keptX (I2 31) (I2 32) L2 → (∀ k, (∀ j, L.length ≤ j → j < L2.length → k ≠ j % 256) → I2 32 k = I 32 k) →
        Wp (fun r M => ∃ I' R', r = some (.int (am_i (lm + cnt (laB last wf fm u nt s) i (n + 1) : Nat))) ∧ M = (I', J, R', 138) ∧ rR R0 R' ∧ (∀ q k, ¬ xHc q → I' q k = I0 q k) ∧ I' 31 66 = am_i (h + 1 : Nat) ∧ keptX (I' 31) (I' 32) (L ++ entF (entB last wf fm u h nt s) i (n + 1)) ∧ (∀ b, i ≤ b → b < nb → bX (I' 31) (11 * b) (nt b) (paS last wf fm u (nt b) (s b))) ∧ (∀ k, k < 11 * i → I' 31 k = I 31 k) ∧ ∀ k, (∀ j, L.length ≤ j → j < L.length + (entF (entB last wf fm u h nt s) i (n + 1)).length → k ≠ j % 256) → I' 32 k = I 32 k) (am_E (d + 8) 157 97 [(0, .ref 3), (1, .int (am_i u)), (2, .int (am_i lm2)), (3, .int (am_i i))] [] (I2, J, R2, 138)) := by
      intro I2 R2 L2 lm2 f1 f2 f3 f4 f5 f6 f7 f8
      have hlB := entB_l (last := last) (wf := wf) (fm := fm) (u := u) (h := h) (nt := nt) (s := s) i
      have hl2 : L2.length = L.length + (entB last wf fm u h nt s i).length := by rw [f6, List.length_append]
      rw [sg_X11_passHour_97, am_let_s, am_i_add, am_i_s]
      refine Wp_m (x_hloop hx0 h40 hc hu hh h6 hX hI1 hnt hO n (i + 1) I2 R2 L2 lm2 (by omega) f1 f2 (by rw [f3 _ (by omega) (by omega)]; exact h66) (by omega) f7 (fun b b1 b2 => ?_)) ?_
      · obtain ⟨y0, y1, y2, y3, y4, y5⟩ := hB b (by omega) b2
        have nb6 := (hnt b b2).1
        exact ⟨by rw [f3 _ (by omega) (by omega)]; exact y0, by rw [f3 _ (by omega) (by omega)]; exact y1, by rw [f3 _ (by omega) (by omega)]; exact y2, by rw [f3 _ (by omega) (by omega)]; exact y3, by rw [f3 _ (by omega) (by omega)]; exact y4, fun k hk => by rw [f3 _ (by omega) (by omega)]; exact y5 k hk⟩
      · rintro _ _ ⟨I', R', rfl, rfl, g1, g2, g3, g4, g5, g6, g7⟩
        have hlF : (entF (entB last wf fm u h nt s) i (n + 1)).length = (entB last wf fm u h nt s i).length + (entF (entB last wf fm u h nt s) (i + 1) n).length := List.length_append
        refine ⟨I', R', ?_, rfl, g1, g2, g3, ?_, fun b b1 b2 => ?_, fun k hk => ?_, fun k hk => ?_⟩
        · rw [f5]
          show some (Value.int (am_i ((lm + laB last wf fm u nt s i + cnt (laB last wf fm u nt s) (i + 1) n : Nat) : Int))) = some (Value.int (am_i ((lm + (laB last wf fm u nt s i + cnt (laB last wf fm u nt s) (i + 1) n) : Nat) : Int)))
          rw [Nat.add_assoc]
        · rw [f6, List.append_assoc] at g4
          exact g4
        · by_cases e : b = i
          · subst e
            obtain ⟨y0, y1, y2, y3, y4, y5⟩ := f4
            exact ⟨by rw [g6 _ (by omega)]; exact y0, by rw [g6 _ (by omega)]; exact y1, by rw [g6 _ (by omega)]; exact y2, by rw [g6 _ (by omega)]; exact y3, by rw [g6 _ (by omega)]; exact y4, fun k hk => by rw [g6 _ (by omega)]; exact y5 k hk⟩
          · exact g5 b (by omega) b2
        · rw [g6 k (by omega), f3 k (by omega) (by omega)]
        · rw [g7 k (fun j j1 j2 => hk j (by omega) (by omega)), f8 k (fun j j1 j2 => hk j j1 (by omega))]
    rw [sg_X11_passHour_4]
    simp (disch := first | assumption | omega) only [am_i_add, am_i_sub, am_i_mul, am_ok_i, am_i_cl, n_lt, n_le, n_eq, n_lt0, n_le0, n_0lt, n_0le, n_eq0, ne_eq, ↓reduceIte, not_true_eq_false, not_false_eq_true, and_true, true_and, and_false, false_and, eq_T, eq_F, lt_T, lt_F, le_T, le_F, qn_T, qn_F, and_F, b01_T, b01_F, e_isIn, Int32.toInt_toInt64, am_i_toInt, am_l_toInt, Int.toNat_natCast, Int.reduceToNat, Int.reduceAdd, Int.reduceSub, Int.reduceMul, Int.reduceNeg, Nat.reduceAdd, Nat.reduceMul, Nat.add_zero, Nat.mul_zero, Nat.zero_add, am_zb0, am_zb1, ↓Bool.cond_decide, cond_true, cond_false, ↓am_let_s, ↓bI_p, bIJ_s, ↓bV_p, bVJ_s, ↓bL_p, bLJ_s, ly_cf, Bool.and_self, Bool.and_true, ly_csx, ly_cax, rX hxR, h4R, rC hxR hc, e1]
    refine Wp_V (x_load (s := s i) (n := nt i) (b := i) hxR (Or.inl rfl) hc (by omega) (by rw [hI _ _ (by unfold xHc; omega)]; exact hn4) n6 hOi.2.2.2.1 hBi) ?_
    rintro _ _ ⟨I1, rfl, rfl, hf1, hH⟩
    refine ⟨rfl, ?_⟩
    have hR1 : rR R0 (am_up R 35 1 c) := rR_u hR hc (Or.inl rfl)
    have hx1 := rR_x hR1 hx0
    have h41 : am_up R 35 1 c 3 4 = c := by rw [am_up_o (by omega)]; exact h4R
    have g1 : ∀ q k, ¬ (35 ≤ q ∧ q ≤ 41) → I1 q k = I q k := fun q k e => hf1 q k (hS_f.mpr (by omega))
    simp (disch := first | assumption | omega) only [am_i_add, am_i_sub, am_i_mul, am_ok_i, am_i_cl, n_lt, n_le, n_eq, n_lt0, n_le0, n_0lt, n_0le, n_eq0, ne_eq, ↓reduceIte, not_true_eq_false, not_false_eq_true, and_true, true_and, and_false, false_and, eq_T, eq_F, lt_T, lt_F, le_T, le_F, qn_T, qn_F, and_F, b01_T, b01_F, e_isIn, Int32.toInt_toInt64, am_i_toInt, am_l_toInt, Int.toNat_natCast, Int.reduceToNat, Int.reduceAdd, Int.reduceSub, Int.reduceMul, Int.reduceNeg, Nat.reduceAdd, Nat.reduceMul, Nat.add_zero, Nat.mul_zero, Nat.zero_add, am_zb0, am_zb1, ↓Bool.cond_decide, cond_true, cond_false, ↓am_let_s, ↓bI_p, bIJ_s, ↓bV_p, bVJ_s, ↓bL_p, bLJ_s, ly_cf, Bool.and_self, Bool.and_true, rX hx1]
    have hX1 : cxX c last wd wf fm I1 := cxX_c hc (fun q k a1 a2 => by rw [g1 q k (by omega), hI q k (by unfold xHc; omega)]) hX
    refine Wp_I (x_pass (u := u) hx1 (Or.inl rfl) hc am_up_e hX1 n6 hOi hH hu) ?_
    rintro _ _ ⟨I2, rfl, rfl, hf2, hH2⟩
    refine ⟨_, rfl, ?_⟩
    have g2 : ∀ q k, ¬ (35 ≤ q ∧ q ≤ 41) → I2 q k = I q k := fun q k e => by rw [hf2 q k (hS_f.mpr (by omega)), g1 q k e]
    have g20 : ∀ q k, ¬ xHc q → I2 q k = I0 q k := fun q k e => by rw [g2 q k (by unfold xHc at e; omega), hI q k e]
    by_cases ho : ouS last (nt i) (s i)
    · have hno : noS last (nt i) (s i) = (s i).sc (s i).pl := if_pos ho
      have hsc := hOi.2.2.2.2.2.2 (s i).pl (by have := hOi.2.2.2.2.1; have := ho.1; omega)
      have hO2 : bOK last (nt i) (paS last wf fm u (nt i) (s i)) := paS_ok hOi
      have psc : (paS last wf fm u (nt i) (s i)).sc = (s i).sc := by unfold paS; rw [if_pos ho]; rfl
      simp (disch := first | assumption | omega) only [am_i_add, am_i_sub, am_i_mul, am_ok_i, am_i_cl, n_lt, n_le, n_eq, n_lt0, n_le0, n_0lt, n_0le, n_eq0, ne_eq, ↓reduceIte, not_true_eq_false, not_false_eq_true, and_true, true_and, and_false, false_and, eq_T, eq_F, lt_T, lt_F, le_T, le_F, qn_T, qn_F, and_F, b01_T, b01_F, e_isIn, Int32.toInt_toInt64, am_i_toInt, am_l_toInt, Int.toNat_natCast, Int.reduceToNat, Int.reduceAdd, Int.reduceSub, Int.reduceMul, Int.reduceNeg, Nat.reduceAdd, Nat.reduceMul, Nat.add_zero, Nat.mul_zero, Nat.zero_add, am_zb0, am_zb1, ↓Bool.cond_decide, cond_true, cond_false, ↓am_let_s, ↓bI_p, bIJ_s, ↓bV_p, bVJ_s, ↓bL_p, bLJ_s, ly_cf, Bool.and_self, Bool.and_true, hno, rX hx1]
      refine Wp_V (x_store (b := i) (n := nt i) (x := paS last wf fm u (nt i) (s i)) hx1 (by omega) hO2.2.2.2.1 hH2) ?_
      rintro _ _ ⟨I3, rfl, rfl, q0, q1, q2, q3, q4, q5⟩
      refine ⟨rfl, ?_⟩
      have g3 : ∀ q k, ¬ (q = 31 ∧ 11 * i ≤ k ∧ k ≤ 11 * i + 4) → ¬ (35 ≤ q ∧ q ≤ 41) → I3 q k = I q k := fun q k a b => by rw [q5 q k a, g2 q k b]
      have g30 : ∀ q k, ¬ xHc q → I3 q k = I0 q k := fun q k e => by rw [q5 q k (by unfold xHc at e; omega), g20 q k e]
      have hK3 : keptX (I3 31) (I3 32) L := keptX_c hK (g3 _ _ (by omega) (by omega)) (fun k => g3 _ _ (by omega) (by omega))
      have h663 : I3 31 66 = am_i h := by rw [g3 _ _ (by omega) (by omega)]; exact h66
      have bx3 : ∀ I4 : tI, (∀ k, k < 67 → I4 31 k = I3 31 k) → bX (I4 31) (11 * i) (nt i) (paS last wf fm u (nt i) (s i)) := fun I4 e => ⟨by rw [e _ (by omega)]; exact q0, by rw [e _ (by omega)]; exact q1, by rw [e _ (by omega)]; exact q2, by rw [e _ (by omega)]; exact q3, by rw [e _ (by omega)]; exact q4, fun k hk => by rw [e _ (by omega), g3 _ _ (by omega) (by omega), psc]; exact hBi.2.2.2.2.2 k hk⟩
      have xL := fun d => x_landed (d := d) (J := J) (I := I3) (m := (paS last wf fm u (nt i) (s i)).mi) (last := last) hx1 (Or.inl rfl) hc am_up_e (by have := hO2.1; omega) hl (by rw [q5 _ _ (by omega)]; exact hH2.1) (by rw [g30 _ _ (by unfold xHc; omega)]; exact hX.1)
      have e5 : I3 35 5 = am_i (paS last wf fm u (nt i) (s i)).su := by rw [q5 _ _ (by omega)]; exact hH2.2.2.2.1
      by_cases cl : (paS last wf fm u (nt i) (s i)).mi = last
      · simp (disch := first | assumption | omega) only [am_i_add, am_i_sub, am_i_mul, am_ok_i, am_i_cl, n_lt, n_le, n_eq, n_lt0, n_le0, n_0lt, n_0le, n_eq0, ne_eq, ↓reduceIte, not_true_eq_false, not_false_eq_true, and_true, true_and, and_false, false_and, eq_T, eq_F, lt_T, lt_F, le_T, le_F, qn_T, qn_F, and_F, b01_T, b01_F, e_isIn, Int32.toInt_toInt64, am_i_toInt, am_l_toInt, Int.toNat_natCast, Int.reduceToNat, Int.reduceAdd, Int.reduceSub, Int.reduceMul, Int.reduceNeg, Nat.reduceAdd, Nat.reduceMul, Nat.add_zero, Nat.mul_zero, Nat.zero_add, am_zb0, am_zb1, ↓Bool.cond_decide, cond_true, cond_false, ↓am_let_s, ↓bI_p, bIJ_s, ↓bV_p, bVJ_s, ↓bL_p, bLJ_s, ly_cf, Bool.and_self, Bool.and_true, rX hx1, xL, b01_t cl, am_i_s]
        refine Wp_V (x_add1 (h := h) (L := L) (b := i) hx1 (by omega) (by omega) (by omega) h663 hK3) ?_
        rintro _ _ ⟨I4, rfl, rfl, a1, a2⟩
        refine ⟨rfl, ?_⟩
        simp (disch := first | assumption | omega) only [am_i_add, am_i_s]
        refine next I4 _ (L ++ [(h, i, 1)]) (lm + 1) hR1 (fun q k e => ?_) (fun k e1 e2 => ?_) (bx3 I4 (fun k hk => a1 _ _ (by omega) (by omega))) ?_ ?_ a2 (fun k hk => ?_)
        · rw [a1 q k (by unfold xHc at e; omega) (by unfold xHc at e; omega), g30 q k e]
        · rw [a1 _ _ (by omega) (by omega), g3 _ _ (by omega) (by omega)]
        · rw [show laB last wf fm u nt s i = 1 from if_pos ⟨ho, cl⟩]
        · rw [show entB last wf fm u h nt s i = [(h, i, 1)] by unfold entB; rw [if_pos ho, if_pos cl]]
        · rw [a1 _ _ (by omega) (fun e => hk L.length (Nat.le_refl _) (by simp) e.2), g3 _ _ (by omega) (by omega)]
      · by_cases cs : (paS last wf fm u (nt i) (s i)).su = 1
        · simp (disch := first | assumption | omega) only [am_i_add, am_i_sub, am_i_mul, am_ok_i, am_i_cl, n_lt, n_le, n_eq, n_lt0, n_le0, n_0lt, n_0le, n_eq0, ne_eq, ↓reduceIte, not_true_eq_false, not_false_eq_true, and_true, true_and, and_false, false_and, eq_T, eq_F, lt_T, lt_F, le_T, le_F, qn_T, qn_F, and_F, b01_T, b01_F, e_isIn, Int32.toInt_toInt64, am_i_toInt, am_l_toInt, Int.toNat_natCast, Int.reduceToNat, Int.reduceAdd, Int.reduceSub, Int.reduceMul, Int.reduceNeg, Nat.reduceAdd, Nat.reduceMul, Nat.add_zero, Nat.mul_zero, Nat.zero_add, am_zb0, am_zb1, ↓Bool.cond_decide, cond_true, cond_false, ↓am_let_s, ↓bI_p, bIJ_s, ↓bV_p, bVJ_s, ↓bL_p, bLJ_s, ly_cf, Bool.and_self, Bool.and_true, rX hx1, xL, b01_f cl, e5, cs]
          refine Wp_V (x_add0 (h := h) (L := L) (b := i) hx1 (by omega) (by omega) (by omega) h663 hK3) ?_
          rintro _ _ ⟨I4, rfl, rfl, a1, a2⟩
          refine ⟨rfl, next I4 _ (L ++ [(h, i, 0)]) lm hR1 (fun q k e => ?_) (fun k e1 e2 => ?_) (bx3 I4 (fun k hk => a1 _ _ (by omega) (by omega))) ?_ ?_ a2 (fun k hk => ?_)⟩
          · rw [a1 q k (by unfold xHc at e; omega) (by unfold xHc at e; omega), g30 q k e]
          · rw [a1 _ _ (by omega) (by omega), g3 _ _ (by omega) (by omega)]
          · rw [show laB last wf fm u nt s i = 0 from if_neg (fun e => cl e.2)]; rfl
          · rw [show entB last wf fm u h nt s i = [(h, i, 0)] by unfold entB; rw [if_pos ho, if_neg cl, if_pos cs]]
          · rw [a1 _ _ (by omega) (fun e => hk L.length (Nat.le_refl _) (by simp) e.2), g3 _ _ (by omega) (by omega)]
        · have cs0 : (paS last wf fm u (nt i) (s i)).su = 0 := by have := hO2.2.2.2.1; omega
          simp (disch := first | assumption | omega) only [am_i_add, am_i_sub, am_i_mul, am_ok_i, am_i_cl, n_lt, n_le, n_eq, n_lt0, n_le0, n_0lt, n_0le, n_eq0, ne_eq, ↓reduceIte, not_true_eq_false, not_false_eq_true, and_true, true_and, and_false, false_and, eq_T, eq_F, lt_T, lt_F, le_T, le_F, qn_T, qn_F, and_F, b01_T, b01_F, e_isIn, Int32.toInt_toInt64, am_i_toInt, am_l_toInt, Int.toNat_natCast, Int.reduceToNat, Int.reduceAdd, Int.reduceSub, Int.reduceMul, Int.reduceNeg, Nat.reduceAdd, Nat.reduceMul, Nat.add_zero, Nat.mul_zero, Nat.zero_add, am_zb0, am_zb1, ↓Bool.cond_decide, cond_true, cond_false, ↓am_let_s, ↓bI_p, bIJ_s, ↓bV_p, bVJ_s, ↓bL_p, bLJ_s, ly_cf, Bool.and_self, Bool.and_true, rX hx1, xL, b01_f cl, e5, cs0]
          refine next I3 _ L lm hR1 g30 (fun k e1 e2 => g3 _ _ (by omega) (by omega)) (bx3 I3 (fun _ _ => rfl)) ?_ ?_ hK3 (fun k hk => g3 _ _ (by omega) (by omega))
          · rw [show laB last wf fm u nt s i = 0 from if_neg (fun e => cl e.2)]; rfl
          · rw [show entB last wf fm u h nt s i = [] by unfold entB; rw [if_pos ho, if_neg cl, if_neg cs], List.append_nil]
    · have hno : noS last (nt i) (s i) = 8 := if_neg ho
      have z1 : paS last wf fm u (nt i) (s i) = s i := by unfold paS; rw [if_neg ho]
      have e8 : am_i ((8 : Nat) : Int) = am_i 8 := rfl
      simp (disch := first | assumption | omega) only [am_i_add, am_i_sub, am_i_mul, am_ok_i, am_i_cl, n_lt, n_le, n_eq, n_lt0, n_le0, n_0lt, n_0le, n_eq0, ne_eq, ↓reduceIte, not_true_eq_false, not_false_eq_true, and_true, true_and, and_false, false_and, eq_T, eq_F, lt_T, lt_F, le_T, le_F, qn_T, qn_F, and_F, b01_T, b01_F, e_isIn, Int32.toInt_toInt64, am_i_toInt, am_l_toInt, Int.toNat_natCast, Int.reduceToNat, Int.reduceAdd, Int.reduceSub, Int.reduceMul, Int.reduceNeg, Nat.reduceAdd, Nat.reduceMul, Nat.add_zero, Nat.mul_zero, Nat.zero_add, am_zb0, am_zb1, ↓Bool.cond_decide, cond_true, cond_false, ↓am_let_s, ↓bI_p, bIJ_s, ↓bV_p, bVJ_s, ↓bL_p, bLJ_s, ly_cf, Bool.and_self, Bool.and_true, hno, e8]
      refine next I2 _ L lm hR1 g20 (fun k e1 e2 => g2 _ _ (by omega)) ?_ ?_ ?_ (keptX_c hK (g2 _ _ (by omega)) (fun k => g2 _ _ (by omega))) (fun k hk => g2 _ _ (by omega))
      · rw [z1]
        obtain ⟨y0, y1, y2, y3, y4, y5⟩ := hBi
        exact ⟨by rw [g2 _ _ (by omega)]; exact y0, by rw [g2 _ _ (by omega)]; exact y1, by rw [g2 _ _ (by omega)]; exact y2, by rw [g2 _ _ (by omega)]; exact y3, by rw [g2 _ _ (by omega)]; exact y4, fun k hk => by rw [g2 _ _ (by omega)]; exact y5 k hk⟩
      · rw [show laB last wf fm u nt s i = 0 from if_neg (fun e => ho e.1)]; rfl
      · rw [show entB last wf fm u h nt s i = [] from if_neg ho, List.append_nil]
/-- how many boats are still out -/
def ouB (last : Nat) (nt : Nat → Nat) (s : Nat → bt) (b : Nat) : Nat := if ouS last (nt b) (s b) then 1 else 0
theorem ent_ou : ∀ (n i : Nat), (entF (entB last wf fm u h nt s) i n).length + cnt (ouB last nt (hrS last wf fm nt u s)) i n ≤ cnt (ouB last nt s) i n
  | 0, _ => Nat.le_refl _
  | n + 1, i => by
    have ih := ent_ou n (i + 1)
    have e : (entB last wf fm u h nt s i).length + ouB last nt (hrS last wf fm nt u s) i ≤ ouB last nt s i := by
      unfold entB ouB
      by_cases ho : ouS last (nt i) (s i)
      · rw [if_pos ho, if_pos ho]
        by_cases cl : (paS last wf fm u (nt i) (s i)).mi = last
        · rw [if_pos cl, if_neg (fun e => e.2.2 cl)]
          exact Nat.le_refl _
        · rw [if_neg cl]
          by_cases cs : (paS last wf fm u (nt i) (s i)).su = 1
          · have : ¬ ouS last (nt i) (hrS last wf fm nt u s i) := fun e => by
              have h2 : (paS last wf fm u (nt i) (s i)).su = 0 := e.2.1
              omega
            rw [if_pos cs, if_neg this]
            exact Nat.le_refl _
          · rw [if_neg cs]
            split <;> simp
      · have z1 : hrS last wf fm nt u s i = s i := by unfold hrS paS; rw [if_neg ho]
        rw [if_neg ho, z1, if_neg ho]
        simp
    show (entB last wf fm u h nt s i ++ entF (entB last wf fm u h nt s) (i + 1) n).length + (ouB last nt (hrS last wf fm nt u s) i + cnt (ouB last nt (hrS last wf fm nt u s)) (i + 1) n) ≤ ouB last nt s i + cnt (ouB last nt s) (i + 1) n
    rw [List.length_append]
    omega
theorem entF_ok (hh : h ≤ 999) (h6 : nb ≤ 6) : ∀ (n i : Nat), i + n ≤ nb → ∀ e ∈ entF (entB last wf fm u h nt s) i n, entOK e
  | 0, i, _, e, he => by cases he
  | n + 1, i, hi, e, he => by
    rcases List.mem_append.mp he with he | he
    · unfold entB at he
      split at he
      · split at he
        · rw [List.mem_singleton.mp he]; exact ⟨hh, by show i < 6; omega, Nat.le_refl 1⟩
        · split at he
          · rw [List.mem_singleton.mp he]; exact ⟨hh, by show i < 6; omega, Nat.zero_le 1⟩
          · cases he
      · cases he
    · exact entF_ok hh h6 n (i + 1) (by omega) e he
end XHL
