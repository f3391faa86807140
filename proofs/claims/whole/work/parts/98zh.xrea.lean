/-! ===== a sound's text is read: the class ===== -/
section XREA
variable {d : Nat} {J : tJ} {R : tR} {T : Nat → Nat} {n p i c : Nat} {I I' : tI} {X : sSt}
theorem x_clear (hx : st_Rx R) (hc : c = 10 ∨ c = 20) : ∃ I', am_E (d + 2) 4 0 [(0, .ref c)] [] (I, J, R, 138) = some (none, (I', J, R, 138)) ∧ (∀ k, k ≤ 5 → I' c k = am_i 0) ∧ (∀ b, b < 6 → I' (c + 4) b = am_i 0) ∧ (∀ k, k < 66 → I' (c + 5) k = am_i 0) ∧ (∀ m, m < 61 → I' (c + 6) m = am_i 0) ∧ (∀ f, f < 3 → I' (c + 8) f = am_i 0 ∧ I' (c + 9) f = am_i 0) ∧ ∀ q j, ¬ (c ≤ q ∧ q ≤ c + 9) → I' q j = I q j := by
  obtain ⟨K1, hK1⟩ : ∃ K1, K1 = am_up (am_up (am_up (am_up (am_up (am_up I c 0 (am_i 0)) c 1 (am_i 0)) c 2 (am_i 0)) c 3 (am_i 0)) c 4 (am_i 0)) c 5 (am_i 0) := ⟨_, rfl⟩
  have k1 : ∀ q j, q ≠ c → K1 q j = I q j := fun q j e => by rw [hK1, am_up_o (by omega), am_up_o (by omega), am_up_o (by omega), am_up_o (by omega), am_up_o (by omega), am_up_o (by omega)]
  have k0 : ∀ k, k ≤ 5 → K1 c k = am_i 0 := fun k hk => by
    have : k = 0 ∨ k = 1 ∨ k = 2 ∨ k = 3 ∨ k = 4 ∨ k = 5 := by omega
    rw [hK1]
    rcases this with rfl | rfl | rfl | rfl | rfl | rfl
    all_goals simp (disch := omega) only [am_up_o, am_up_e]
  have ca := rCa hc
  have fl : ∀ (k len : Nat), (k = 4 ∧ len = 6) ∨ (k = 5 ∧ len = 66) ∨ (k = 6 ∧ len = 61) ∨ (k = 8 ∧ len = 3) ∨ (k = 9 ∧ len = 3) → ∀ I : tI, ∃ I', am_E (d + 1) 23 0 [(0, .ref (c + k)), (1, .int (am_i 0))] [] (I, J, R, 138) = some (none, (I', J, R, 138)) ∧ (∀ j, j < len → I' (c + k) j = am_i 0) ∧ ∀ q j, ¬ (q = c + k ∧ j < len) → I' q j = I q j := fun k len hk I => by
    have go : ∀ (h1 : Nat.blt (c + k) 138 = true) (h2 : Nat.ble 1 (am_kd (c + k)).1 = true) (h3 : Nat.ble (am_kd (c + k)).1 5 = true) (hl : am_ln R (c + k) = len) (hca : ∀ i, am_ca 138 (c + k) 1 i = am_ok i len) (hn : len ≤ 10000), ∃ I', am_E (d + 1) 23 0 [(0, .ref (c + k)), (1, .int (am_i 0))] [] (I, J, R, 138) = some (none, (I', J, R, 138)) ∧ (∀ j, j < len → I' (c + k) j = am_i 0) ∧ ∀ q j, ¬ (q = c + k ∧ j < len) → I' q j = I q j := fun h1 h2 h3 hl hca hn => by
      obtain ⟨r, M, e, I', rfl, rfl, w1, w2⟩ := x_fill (d := d) (J := J) (v := am_i 0) h1 h2 h3 hl hca hn I
      exact ⟨I', e, w1, w2⟩
    rcases hk with ⟨rfl, rfl⟩ | ⟨rfl, rfl⟩ | ⟨rfl, rfl⟩ | ⟨rfl, rfl⟩ | ⟨rfl, rfl⟩
    · exact go (by rcases hc with rfl | rfl <;> decide) (by rcases hc with rfl | rfl <;> decide) (by rcases hc with rfl | rfl <;> decide) (by rcases hc with rfl | rfl <;> rfl) ca.2.2.2.1 (by decide)
    · exact go (by rcases hc with rfl | rfl <;> decide) (by rcases hc with rfl | rfl <;> decide) (by rcases hc with rfl | rfl <;> decide) (by rcases hc with rfl | rfl <;> rfl) ca.2.2.2.2.1 (by decide)
    · exact go (by rcases hc with rfl | rfl <;> decide) (by rcases hc with rfl | rfl <;> decide) (by rcases hc with rfl | rfl <;> decide) (by rcases hc with rfl | rfl <;> rfl) ca.2.2.2.2.2.1 (by decide)
    · exact go (by rcases hc with rfl | rfl <;> decide) (by rcases hc with rfl | rfl <;> decide) (by rcases hc with rfl | rfl <;> decide) (by rcases hc with rfl | rfl <;> rfl) ca.2.2.2.2.2.2.2.1 (by decide)
    · exact go (by rcases hc with rfl | rfl <;> decide) (by rcases hc with rfl | rfl <;> decide) (by rcases hc with rfl | rfl <;> decide) (by rcases hc with rfl | rfl <;> rfl) ca.2.2.2.2.2.2.2.2 (by decide)
  obtain ⟨I1, a1, a2, a3⟩ := fl 4 6 (by omega) K1
  obtain ⟨I2, b1, b2, b3⟩ := fl 5 66 (by omega) I1
  obtain ⟨I3, c1, c2, c3⟩ := fl 6 61 (by omega) I2
  obtain ⟨I4, d1, d2, d3⟩ := fl 8 3 (by omega) I3
  obtain ⟨I5, e1, e2, e3⟩ := fl 9 3 (by omega) I4
  refine ⟨I5, ?_, fun k hk => ?_, fun b hb => ?_, fun k hk => ?_, fun m hm => ?_, fun f hf => ⟨?_, e2 f hf⟩, fun q j e => ?_⟩
  · rw [sg_X1_clear_0]
    simp (disch := first | assumption | omega) only [rX hx, ly_csx, ly_cax, ly_cf, ly_kd, ly_ln, ↓Bool.cond_decide, cond_true, cond_false, ↓bI_p, ↓bV_p, ↓bL_p, bIJ_s, bVJ_s, bLJ_s, ↓am_let_s, Nat.blt, Nat.ble, Bool.and_true, Bool.true_and, Bool.and_self, Int.cast_ofNat_Int, am_i_add, am_i_sub, am_i_mul, am_ok_i, am_i_cl, n_lt, n_le, n_eq, n_lt0, n_le0, n_0lt, n_0le, n_eq0, ne_eq, ↓reduceIte, not_true_eq_false, not_false_eq_true, and_true, true_and, and_false, false_and, eq_T, eq_F, lt_T, lt_F, le_T, le_F, qn_T, qn_F, and_F, b01_T, b01_F, e_isIn, Int32.toInt_toInt64, am_i_toInt, am_l_toInt, Int.toNat_natCast, Int.reduceToNat, Int.reduceAdd, Int.reduceSub, Int.reduceMul, Int.reduceNeg, Nat.reduceAdd, Nat.reduceMul, Nat.add_zero, Nat.mul_zero, Nat.zero_add, am_zb0, am_zb1, rC hx hc, ← hK1, a1, b1, c1, d1, e1]
  · rw [e3 _ _ (by omega), d3 _ _ (by omega), c3 _ _ (by omega), b3 _ _ (by omega), a3 _ _ (by omega)]; exact k0 k hk
  · rw [e3 _ _ (by omega), d3 _ _ (by omega), c3 _ _ (by omega), b3 _ _ (by omega)]; exact a2 b hb
  · rw [e3 _ _ (by omega), d3 _ _ (by omega), c3 _ _ (by omega)]; exact b2 k hk
  · rw [e3 _ _ (by omega), d3 _ _ (by omega)]; exact c2 m hm
  · rw [e3 _ _ (by omega)]; exact d2 f hf
  · rw [e3 _ _ (by omega), d3 _ _ (by omega), c3 _ _ (by omega), b3 _ _ (by omega), a3 _ _ (by omega), k1 q j (by omega)]
/-- what comes out of the loop -/
def xZ (c cnt : Nat) (r : sRs) (I : tI) : Prop := r.1 ≤ 9 ∧ (r.1 = 0 → I 5 10 = am_i 0 ∧ I 5 11 = am_i (-1) ∧ xCh c r.2.2 I ∧ cnt = r.2.1) ∧ (r.1 ≠ 0 → ftX r.1 r.2.1 I)
theorem sdLo_ok : ∀ (f i p : Nat) (X : sSt), i ≤ 80 → sOK n p i X → (sdLo T n f i p X).1 = 0 → i ≤ (sdLo T n f i p X).2.1 ∧ (sdLo T n f i p X).2.1 ≤ 80 ∧ ∃ p' i', i' ≤ 80 ∧ sOK n p' i' (sdLo T n f i p X).2.2
  | 0, i, p, X, hi, hO, e => absurd e (by show ¬ ((9 : Nat) = 0); decide)
  | f + 1, i, p, X, hi, hO, e => by
    unfold sdLo at e ⊢
    by_cases k0 : tK T n p = 0
    · rw [if_pos k0]
      exact ⟨Nat.le_refl _, hi, p, i, hi, hO⟩
    · rw [if_neg k0] at e ⊢
      by_cases i80 : i = 80
      · rw [if_pos i80] at e
        exact absurd e (by show ¬ ((5 : Nat) = 0); decide)
      · rw [if_neg i80] at e ⊢
        by_cases q : (sdSt T n X p).1 = 0
        · rw [if_pos q] at e ⊢
          obtain ⟨o1, o2⟩ := sOK_st hO q
          have ob := o2.1.2.2.2.2.2.2.2.2
          by_cases q2 : (aS T n (sdSt T n X p).2.1 59).1 = 0
          · rw [sI_0 q2] at e ⊢
            obtain ⟨s1, s2, s3, s4⟩ := (aS_b (T := T) (c := 59) ob).1 q2
            obtain ⟨r1, r2, r3⟩ := sdLo_ok f (i + 1) _ _ (by omega) (sOK_m o2 (by omega) s4) e
            exact ⟨by omega, r2, r3⟩
          · rw [sI_n q2] at e
            exact absurd e q2
        · rw [if_neg q] at e
          exact absurd e q
theorem x_r23 (hx : st_Rx R) : ∀ (f i p : Nat) (X : sSt) (I : tI), 1 ≤ i → i ≤ 80 → i + f = 82 → xB T n c p i X I R → ∃ (cnt : Nat) (I' : tI), am_E (d + 79) 90 23 [(0, .ref 30), (2, .int (am_i i)), (3, .int (am_i i))] [] (I, J, R, 138) = am_E (d + 79) 90 146 [(0, .ref 30), (2, .int (am_i cnt))] [] (I', J, R, 138) ∧ 1 ≤ cnt ∧ cnt ≤ 81 ∧ xZ c cnt (sdLo T n f i p X) I' ∧ xF c I I'
  | 0, i, p, X, I, h1, h80, hf, h => by omega
  | f + 1, i, p, X, I, h1, h80, hf, h => by
    have h0 := h
    obtain ⟨n16, hT, hS, h11, hX, hO, ⟨ac, hac, h83⟩, h2, hc⟩ := h
    have hp : p ≤ n := hO.1.2.2.2.2.2.2.2.2
    have sz := hO.1.2.2.2.2.2.2.2.1
    have h82 := hX.2.2.2.2.2.2
    have r0 : xR T n (0, p) I := ⟨fun _ => ⟨hS, hp, h11⟩, fun e => absurd rfl e⟩
    have h10 := hS.2.2.2.2.1
    have ie := fun d => e_isEnd (d := d) (J := J) (R := R) (vw_p hT hS)
    unfold sdLo
    by_cases k0 : tK T n p = 0
    · rw [if_pos k0]
      refine ⟨i, I, ?_, h1, by omega, ⟨by show 0 ≤ 9; omega, fun _ => ⟨h10, h11, hX, rfl⟩, fun e => absurd rfl e⟩, fun _ _ _ => rfl⟩
      rw [sg_X10_read_23]
      simp (disch := first | assumption | omega) only [rX hx, ly_csx, ly_cax, ly_cf, ly_kd, ly_ln, ↓Bool.cond_decide, cond_true, cond_false, ↓bI_p, ↓bV_p, ↓bL_p, bIJ_s, bVJ_s, bLJ_s, ↓am_let_s, Nat.blt, Nat.ble, Bool.and_true, Bool.true_and, Bool.and_self, Int.cast_ofNat_Int, am_i_add, am_i_sub, am_i_mul, am_ok_i, am_i_cl, n_lt, n_le, n_eq, n_lt0, n_le0, n_0lt, n_0le, n_eq0, ne_eq, ↓reduceIte, not_true_eq_false, not_false_eq_true, and_true, true_and, and_false, false_and, eq_T, eq_F, lt_T, lt_F, le_T, le_F, qn_T, qn_F, and_F, b01_T, b01_F, e_isIn, Int32.toInt_toInt64, am_i_toInt, am_l_toInt, Int.toNat_natCast, Int.reduceToNat, Int.reduceAdd, Int.reduceSub, Int.reduceMul, Int.reduceNeg, Nat.reduceAdd, Nat.reduceMul, Nat.add_zero, Nat.mul_zero, Nat.zero_add, am_zb0, am_zb1, ie, b01_t k0]
    · rw [if_neg k0]
      by_cases i80 : i = 80
      · rw [if_pos i80]
        subst i80
        have h4 := hS.2.2.1
        obtain ⟨I1, a1, a2, a3⟩ := x_rF (J := J) (R := R) (e := 5) (pl := tAt T n p) (v := am_i (tAt T n p)) r0 (fun _ => rfl) (by decide) (by decide)
        have a1' : ∀ d, am_E (d + 1) 71 0 [(0, .ref 5), (1, .int (am_i 5)), (2, .int (am_i (tAt T n p)))] [] (I, J, R, 138) = some (none, (I1, J, R, 138)) := a1
        rw [rS_0 rfl] at a2
        obtain ⟨f1, f2⟩ := a2.2 (by show ¬ ((5 : Nat) = 0); decide)
        have sn : ∀ d, am_E (d + 5) 85 0 [(0, .ref 5), (1, .int (am_i 59))] [] (I1, J, R, 138) = some (none, (I1, J, R, 138)) := fun d => x_needSignF (c := 59) f1 (by show ¬ ((5 : Nat) = 0); decide) (by show (5 : Nat) ≤ 9; decide) (by decide)
        refine ⟨81, I1, ?_, by omega, by omega, ⟨by show 5 ≤ 9; omega, fun e => absurd e (by show ¬ ((5 : Nat) = 0); decide), fun _ => ⟨f1, ⟨X.sz, by omega, by rw [a3 _ _ (by omega)]; exact h82⟩, ac, hac, by rw [a3 _ _ (by omega)]; exact h83⟩⟩, fun q j e => a3 q j (by omega)⟩
        rw [sg_X10_read_23]
        simp (disch := first | assumption | omega) only [rX hx, ly_csx, ly_cax, ly_cf, ly_kd, ly_ln, ↓Bool.cond_decide, cond_true, cond_false, ↓bI_p, ↓bV_p, ↓bL_p, bIJ_s, bVJ_s, bLJ_s, ↓am_let_s, Nat.blt, Nat.ble, Bool.and_true, Bool.true_and, Bool.and_self, Int.cast_ofNat_Int, am_i_add, am_i_sub, am_i_mul, am_ok_i, am_i_cl, n_lt, n_le, n_eq, n_lt0, n_le0, n_0lt, n_0le, n_eq0, ne_eq, ↓reduceIte, not_true_eq_false, not_false_eq_true, and_true, true_and, and_false, false_and, eq_T, eq_F, lt_T, lt_F, le_T, le_F, qn_T, qn_F, and_F, b01_T, b01_F, e_isIn, Int32.toInt_toInt64, am_i_toInt, am_l_toInt, Int.toNat_natCast, Int.reduceToNat, Int.reduceAdd, Int.reduceSub, Int.reduceMul, Int.reduceNeg, Nat.reduceAdd, Nat.reduceMul, Nat.add_zero, Nat.mul_zero, Nat.zero_add, am_zb0, am_zb1, Int.cast_ofNat_Int, ie, b01_f k0, h10, h4, a1', sg_X10_read_128, sn]
        rw [sg_X10_read_23]
        simp (disch := first | assumption | omega) only [rX hx, ly_csx, ly_cax, ly_cf, ly_kd, ly_ln, ↓Bool.cond_decide, cond_true, cond_false, ↓bI_p, ↓bV_p, ↓bL_p, bIJ_s, bVJ_s, bLJ_s, ↓am_let_s, Nat.blt, Nat.ble, Bool.and_true, Bool.true_and, Bool.and_self, Int.cast_ofNat_Int, am_i_add, am_i_sub, am_i_mul, am_ok_i, am_i_cl, n_lt, n_le, n_eq, n_lt0, n_le0, n_0lt, n_0le, n_eq0, ne_eq, ↓reduceIte, not_true_eq_false, not_false_eq_true, and_true, true_and, and_false, false_and, eq_T, eq_F, lt_T, lt_F, le_T, le_F, qn_T, qn_F, and_F, b01_T, b01_F, e_isIn, Int32.toInt_toInt64, am_i_toInt, am_l_toInt, Int.toNat_natCast, Int.reduceToNat, Int.reduceAdd, Int.reduceSub, Int.reduceMul, Int.reduceNeg, Nat.reduceAdd, Nat.reduceMul, Nat.add_zero, Nat.mul_zero, Nat.zero_add, am_zb0, am_zb1]
      · rw [if_neg i80]
        have i80' : ¬ (i : Int) = 80 := by omega
        have i0 : ¬ (i : Int) = 0 := by omega
        obtain ⟨I1, a1, ⟨a2, a3, ⟨s, s1, s2⟩, ac1, ac2, ac3⟩, a4⟩ := x_any (d := d) (J := J) hx h0
        have T1 : txX T n I1 R := txX_c hT (fun q k e => a4 q k (by omega))
        obtain ⟨I2, b1, b2, b3⟩ := x_rS (d := d + 73) (J := J) hx T1 a2 (c := 59) (by decide)
        have b1' : am_E (d + 78) 85 0 [(0, .ref 5), (1, .int (am_i 59))] [] (I1, J, R, 138) = some (none, (I2, J, R, 138)) := b1
        have step : am_E (d + 79) 90 23 [(0, .ref 30), (2, .int (am_i i)), (3, .int (am_i i))] [] (I, J, R, 138) = am_E (d + 79) 90 23 [(0, .ref 30), (2, .int (am_i (i + 1 : Nat))), (3, .int (am_i (i + 1 : Nat)))] [] (I2, J, R, 138) := by
          rcases a1 with ⟨g, hg, fh, fm⟩ | ⟨fh, fm⟩
          · conv => lhs; rw [sg_X10_read_23]
            simp (disch := first | assumption | omega) only [rX hx, ly_csx, ly_cax, ly_cf, ly_kd, ly_ln, ↓Bool.cond_decide, cond_true, cond_false, ↓bI_p, ↓bV_p, ↓bL_p, bIJ_s, bVJ_s, bLJ_s, ↓am_let_s, Nat.blt, Nat.ble, Bool.and_true, Bool.true_and, Bool.and_self, Int.cast_ofNat_Int, am_i_add, am_i_sub, am_i_mul, am_ok_i, am_i_cl, n_lt, n_le, n_eq, n_lt0, n_le0, n_0lt, n_0le, n_eq0, ne_eq, ↓reduceIte, not_true_eq_false, not_false_eq_true, and_true, true_and, and_false, false_and, eq_T, eq_F, lt_T, lt_F, le_T, le_F, qn_T, qn_F, and_F, b01_T, b01_F, e_isIn, Int32.toInt_toInt64, am_i_toInt, am_l_toInt, Int.toNat_natCast, Int.reduceToNat, Int.reduceAdd, Int.reduceSub, Int.reduceMul, Int.reduceNeg, Nat.reduceAdd, Nat.reduceMul, Nat.add_zero, Nat.mul_zero, Nat.zero_add, am_zb0, am_zb1, ie, b01_f k0, h10, fh, fm, sg_X10_read_128, b1', am_i_s]
          · conv => lhs; rw [sg_X10_read_23]
            simp (disch := first | assumption | omega) only [rX hx, ly_csx, ly_cax, ly_cf, ly_kd, ly_ln, ↓Bool.cond_decide, cond_true, cond_false, ↓bI_p, ↓bV_p, ↓bL_p, bIJ_s, bVJ_s, bLJ_s, ↓am_let_s, Nat.blt, Nat.ble, Bool.and_true, Bool.true_and, Bool.and_self, Int.cast_ofNat_Int, am_i_add, am_i_sub, am_i_mul, am_ok_i, am_i_cl, n_lt, n_le, n_eq, n_lt0, n_le0, n_0lt, n_0le, n_eq0, ne_eq, ↓reduceIte, not_true_eq_false, not_false_eq_true, and_true, true_and, and_false, false_and, eq_T, eq_F, lt_T, lt_F, le_T, le_F, qn_T, qn_F, and_F, b01_T, b01_F, e_isIn, Int32.toInt_toInt64, am_i_toInt, am_l_toInt, Int.toNat_natCast, Int.reduceToNat, Int.reduceAdd, Int.reduceSub, Int.reduceMul, Int.reduceNeg, Nat.reduceAdd, Nat.reduceMul, Nat.add_zero, Nat.mul_zero, Nat.zero_add, am_zb0, am_zb1, ie, b01_f k0, h10, fh, fm, sg_X10_read_128, b1', am_i_s]
        have fr2 : xF c I I2 := fun q j e => by rw [b3 q j (by omega), a4 q j e]
        -- behind a fault
        have bad : ∀ e pl : Nat, e ≠ 0 → e ≤ 9 → xFt e pl I2 → ∃ (cnt : Nat) (I' : tI), am_E (d + 79) 90 23 [(0, .ref 30), (2, .int (am_i i)), (3, .int (am_i i))] [] (I, J, R, 138) = am_E (d + 79) 90 146 [(0, .ref 30), (2, .int (am_i cnt))] [] (I', J, R, 138) ∧ 1 ≤ cnt ∧ cnt ≤ 81 ∧ xZ c cnt (e, pl, X) I' ∧ xF c I I' := fun e pl he he9 hF => by
          have ie2 := fun d => e_isEnd (d := d) (J := J) (R := R) (vw_F hF)
          have f10' : (I2 5 10 = 0) = False := eq_false (by
            rw [hF.2.1]
            intro z
            have z' : am_i (e : Int) = am_i 0 := z
            rw [n_eq (by omega) (by omega) (by omega) (by omega)] at z'
            omega)
          refine ⟨i + 1, I2, ?_, by omega, by omega, ⟨he9, fun z => absurd z he, fun _ => ⟨hF, ⟨s, s1, by rw [b3 _ _ (by omega)]; exact s2⟩, ac1, ac2, by rw [b3 _ _ (by omega)]; exact ac3⟩⟩, fr2⟩
          rw [step, sg_X10_read_23]
          simp (disch := first | assumption | omega) only [rX hx, ly_csx, ly_cax, ly_cf, ly_kd, ly_ln, ↓Bool.cond_decide, cond_true, cond_false, ↓bI_p, ↓bV_p, ↓bL_p, bIJ_s, bVJ_s, bLJ_s, ↓am_let_s, Nat.blt, Nat.ble, Bool.and_true, Bool.true_and, Bool.and_self, Int.cast_ofNat_Int, am_i_add, am_i_sub, am_i_mul, am_ok_i, am_i_cl, n_lt, n_le, n_eq, n_lt0, n_le0, n_0lt, n_0le, n_eq0, ne_eq, ↓reduceIte, not_true_eq_false, not_false_eq_true, and_true, true_and, and_false, false_and, eq_T, eq_F, lt_T, lt_F, le_T, le_F, qn_T, qn_F, and_F, b01_T, b01_F, e_isIn, Int32.toInt_toInt64, am_i_toInt, am_l_toInt, Int.toNat_natCast, Int.reduceToNat, Int.reduceAdd, Int.reduceSub, Int.reduceMul, Int.reduceNeg, Nat.reduceAdd, Nat.reduceMul, Nat.add_zero, Nat.mul_zero, Nat.zero_add, am_zb0, am_zb1, ie2, b01_f (show ¬ (4 = 0) by decide), f10']
        by_cases q : (sdSt T n X p).1 = 0
        · rw [if_pos q]
          obtain ⟨o1, o2⟩ := sOK_st hO q
          have ob := o2.1.2.2.2.2.2.2.2.2
          have q' : ((sdSt T n X p).1, (sdSt T n X p).2.1).1 = 0 := q
          rw [rS_0 q'] at b2
          have b2' : xR T n (aS T n (sdSt T n X p).2.1 59) I2 := b2
          have sb := aS_b (T := T) (c := 59) ob
          by_cases q2 : (aS T n (sdSt T n X p).2.1 59).1 = 0
          · rw [sI_0 q2]
            obtain ⟨s1', s2', s3', s4'⟩ := sb.1 q2
            obtain ⟨t1, t2, t3⟩ := b2'.1 q2
            have X2 : xCh c (sdSt T n X p).2.2 I2 := xCh_c (a3 q) (fun q j e => b3 q j (by omega))
            have xb : xB T n c (aS T n (sdSt T n X p).2.1 59).2 (i + 1) (sdSt T n X p).2.2 I2 R := ⟨n16, txX_c T1 (fun q k e => b3 q k (by omega)), t1, t3, X2, sOK_m o2 (by omega) s4', ⟨ac1, ac2, by rw [b3 _ _ (by omega)]; exact ac3⟩, h2, hc⟩
            obtain ⟨cnt, I', r1, r2, r3, r4, r5⟩ := x_r23 hx f (i + 1) _ _ I2 (by omega) (by omega) (by omega) xb
            exact ⟨cnt, I', by rw [step]; exact r1, r2, r3, r4, fun q j e => by rw [r5 q j e, fr2 q j e]⟩
          · rw [sI_n q2]
            obtain ⟨t1, t2⟩ := b2'.2 q2
            exact bad _ _ q2 t2 t1
        · rw [if_neg q]
          have q' : ((sdSt T n X p).1, (sdSt T n X p).2.1).1 ≠ 0 := q
          rw [rS_n q'] at b2
          obtain ⟨t1, t2⟩ := b2.2 q
          exact bad _ _ q t2 t1
end XREA
