/-! ===== rides: the class fills its boats ===== -/
def bsF (fit : Nat → Nat → Bool) (nb n M : Nat) (g : Nat → Nat) : Prop := (∀ k, k < n → g k ≤ nb) ∧ vF fit g n 0 (fun _ => 0) = M ∧ ∀ h : Nat → Nat, (∀ k, k < n → h k ≤ nb) → vF fit h n 0 (fun _ => 0) ≤ M ∧ (vF fit h n 0 (fun _ => 0) = M → cdF (nb + 1) g n ≤ cdF (nb + 1) h n)
theorem bsF_u {fit : Nat → Nat → Bool} {nb n M M' : Nat} {g g' : Nat → Nat} (h1 : bsF fit nb n M g) (h2 : bsF fit nb n M' g') : M = M' ∧ ∀ k, k < n → g k = g' k := by
  obtain ⟨a1, a2, a3⟩ := h1
  obtain ⟨b1, b2, b3⟩ := h2
  have c1 := (a3 g' b1).1
  have c2 := (b3 g a1).1
  have e : M = M' := by omega
  have d1 := (a3 g' b1).2 (by omega)
  have d2 := (b3 g a1).2 (by omega)
  exact ⟨e, cdF_inj (B := nb + 1) n (fun k hk => by have := a1 k hk; omega) (fun k hk => by have := b1 k hk; omega) (by omega)⟩
theorem vF_z {fit : Nat → Nat → Bool} {f : Nat → Nat} : ∀ (m r : Nat) (t : Nat → Nat), (∀ k, r ≤ k → k < r + m → f k = 0) → vF fit f m r t = 0
  | 0, _, _, _ => rfl
  | m + 1, r, t, h => by
    rw [vF_1, if_pos (h r (by omega) (by omega))]
    exact vF_z m (r + 1) _ (fun k k1 k2 => h k (by omega) (by omega))
theorem cdF_z {B : Nat} {f : Nat → Nat} : ∀ n, (∀ k, k < n → f k = 0) → cdF B f n = 0
  | 0, _ => rfl
  | n + 1, h => by
    show cdF B f n * B + f n = 0
    rw [cdF_z n (fun k hk => h k (by omega)), h n (by omega), Nat.zero_mul]
section FILL
variable {d : Nat} {J : tJ} {R : tR} {fit : Nat → Nat → Bool} {nb n : Nat} {F : Nat → Nat} {I0 : tI}
theorem x_f31 (hx : st_Rx R) (hn : n ≤ 6) (hF : ∀ r, r < n → F r < 64 ∧ I0 53 r = am_i (F r)) : ∀ (k : Nat) (I : tI), k ≤ n → (∀ q j, q ≠ 56 → I q j = I0 q j) → (∀ j, k ≤ j → j ≤ n → I 56 j = am_i (abS F (n - j) j)) → ∃ I', am_E (d + 1) 11 31 [(0, .ref 52), (2, .int (am_i ((k : Int) - 1)))] [] (I, J, R, 138) = am_E (d + 1) 11 77 [(0, .ref 52), (2, .int (am_i (abS F n 0)))] [] (I', J, R, 138) ∧ (∀ q j, q ≠ 56 → I' q j = I0 q j) ∧ ∀ j, j ≤ n → I' 56 j = am_i (abS F (n - j) j)
  | 0, I, hk, hI, h56 => by
    have e0 : I 56 0 = am_i (abS F n 0) := h56 0 (by omega) (by omega)
    refine ⟨I, ?_, hI, fun j hj => h56 j (by omega) hj⟩
    have ek : (((0 : Nat) : Int) - 1) = -1 := rfl
    rw [sg_X2_fill_31, ek]
    simp (disch := first | assumption | omega) only [rX hx, ly_csx, ly_cax, ly_cf, ly_kd, ly_ln, ↓Bool.cond_decide, cond_true, cond_false, ↓bI_p, ↓bV_p, ↓bL_p, bIJ_s, bVJ_s, bLJ_s, ↓am_let_s, Nat.blt, Nat.ble, Bool.and_true, Bool.true_and, Bool.and_self, Int.cast_ofNat_Int, am_i_add, am_i_sub, am_i_mul, am_ok_i, am_i_cl, n_lt, n_le, n_eq, n_lt0, n_le0, n_0lt, n_0le, n_eq0, ne_eq, ↓reduceIte, not_true_eq_false, not_false_eq_true, and_true, true_and, and_false, false_and, eq_T, eq_F, lt_T, lt_F, le_T, le_F, qn_T, qn_F, and_F, b01_T, b01_F, e_isIn, Int32.toInt_toInt64, am_i_toInt, am_l_toInt, Int.toNat_natCast, Int.reduceToNat, Int.reduceAdd, Int.reduceSub, Int.reduceMul, Int.reduceNeg, Nat.reduceAdd, Nat.reduceMul, Nat.add_zero, Nat.mul_zero, Nat.zero_add, am_zb0, am_zb1, e0]
  | k + 1, I, hk, hI, h56 => by
    obtain ⟨F64, hF3⟩ := hF k (by omega)
    have e53 : I 53 k = am_i (F k) := by rw [hI _ _ (by omega)]; exact hF3
    have e56 := h56 (k + 1) (by omega) (by omega)
    have ab := abS_b (F := F) (n - (k + 1)) (k + 1)
    have en : n - k = n - (k + 1) + 1 := by omega
    have ea : abS F (n - k) k = abS F (n - (k + 1)) (k + 1) + (if F k = 0 then 0 else 1) := by rw [en]; rfl
    have ek : (((k + 1 : Nat) : Int) - 1) = (k : Int) := by omega
    have ek1 : ((k : Int) + 1).toNat = k + 1 := by omega
    have em : (k : Int) + -1 = (k : Int) - 1 := by omega
    have go : ∀ v : Nat, v = abS F (n - k) k → ∃ I', am_E (d + 1) 11 31 [(0, .ref 52), (2, .int (am_i ((k : Int) - 1)))] [] (am_up I 56 k (am_i v), J, R, 138) = am_E (d + 1) 11 77 [(0, .ref 52), (2, .int (am_i (abS F n 0)))] [] (I', J, R, 138) ∧ (∀ q j, q ≠ 56 → I' q j = I0 q j) ∧ ∀ j, j ≤ n → I' 56 j = am_i (abS F (n - j) j) := fun v hv => x_f31 hx hn hF k (am_up I 56 k (am_i v)) (by omega) (fun q j e => by rw [am_up_o (by omega)]; exact hI q j e) (fun j j1 j2 => by
      by_cases c : j = k
      · rw [c, am_up_e, hv]
      · rw [am_up_o (by omega)]; exact h56 j (by omega) j2)
    by_cases q : F k = 0
    · obtain ⟨I', g1, g2⟩ := go (abS F (n - (k + 1)) (k + 1)) (by rw [ea, if_pos q]; rfl)
      refine ⟨I', ?_, g2⟩
      rw [← g1, sg_X2_fill_31, ek]
      have z0 : ((abS F (n - (k + 1)) (k + 1) : Nat) : Int) + 0 = ((abS F (n - (k + 1)) (k + 1) : Nat) : Int) := by omega
      simp (disch := first | assumption | omega) only [rX hx, ly_csx, ly_cax, ly_cf, ly_kd, ly_ln, ↓Bool.cond_decide, cond_true, cond_false, ↓bI_p, ↓bV_p, ↓bL_p, bIJ_s, bVJ_s, bLJ_s, ↓am_let_s, Nat.blt, Nat.ble, Bool.and_true, Bool.true_and, Bool.and_self, Int.cast_ofNat_Int, am_i_add, am_i_sub, am_i_mul, am_ok_i, am_i_cl, n_lt, n_le, n_eq, n_lt0, n_le0, n_0lt, n_0le, n_eq0, ne_eq, ↓reduceIte, not_true_eq_false, not_false_eq_true, and_true, true_and, and_false, false_and, eq_T, eq_F, lt_T, lt_F, le_T, le_F, qn_T, qn_F, and_F, b01_T, b01_F, e_isIn, Int32.toInt_toInt64, am_i_toInt, am_l_toInt, Int.toNat_natCast, Int.reduceToNat, Int.reduceAdd, Int.reduceSub, Int.reduceMul, Int.reduceNeg, Nat.reduceAdd, Nat.reduceMul, Nat.add_zero, Nat.mul_zero, Nat.zero_add, am_zb0, am_zb1, e53, ek1, e56, z0, em]
    · obtain ⟨I', g1, g2⟩ := go (abS F (n - (k + 1)) (k + 1) + 1) (by rw [ea, if_neg q])
      refine ⟨I', ?_, g2⟩
      rw [← g1, sg_X2_fill_31, ek]
      simp (disch := first | assumption | omega) only [rX hx, ly_csx, ly_cax, ly_cf, ly_kd, ly_ln, ↓Bool.cond_decide, cond_true, cond_false, ↓bI_p, ↓bV_p, ↓bL_p, bIJ_s, bVJ_s, bLJ_s, ↓am_let_s, Nat.blt, Nat.ble, Bool.and_true, Bool.true_and, Bool.and_self, Int.cast_ofNat_Int, am_i_add, am_i_sub, am_i_mul, am_ok_i, am_i_cl, n_lt, n_le, n_eq, n_lt0, n_le0, n_0lt, n_0le, n_eq0, ne_eq, ↓reduceIte, not_true_eq_false, not_false_eq_true, and_true, true_and, and_false, false_and, eq_T, eq_F, lt_T, lt_F, le_T, le_F, qn_T, qn_F, and_F, b01_T, b01_F, e_isIn, Int32.toInt_toInt64, am_i_toInt, am_l_toInt, Int.toNat_natCast, Int.reduceToNat, Int.reduceAdd, Int.reduceSub, Int.reduceMul, Int.reduceNeg, Nat.reduceAdd, Nat.reduceMul, Nat.add_zero, Nat.mul_zero, Nat.zero_add, am_zb0, am_zb1, e53, ek1, e56, em, am_i_s]
theorem x_f77 (hx : st_Rx R) (hn : n ≤ 6) (hnb : nb ≤ 6) (hI0 : ferI n F I0) (hfit : ∀ r, r < n → ∀ b, b < 6 → F r / 2 ^ b % 2 = if fit r b = true then 1 else 0) (hfb : ∀ r b, fit r b = true → b < nb) : ∀ (need : Nat) (I : tI), need ≤ 6 → (∀ q k, q ≠ 54 → q ≠ 55 → I q k = I0 q k) → (∀ h : Nat → Nat, (∀ k, k < n → h k ≤ nb) → vF fit h n 0 (fun _ => 0) ≤ need) → ∃ (I' : tI) (M : Nat) (g : Nat → Nat), am_E (d + 8) 11 77 [(0, .ref 52), (2, .int (am_i need))] [] (I, J, R, 138) = some (some (.int (am_i M)), (I', J, R, 138)) ∧ bsF fit nb n M g ∧ (∀ k, k < n → I' 54 k = am_i ((g k : Int) - 1)) ∧ ∀ q k, q ≠ 54 → q ≠ 55 → I' q k = I0 q k
  | 0, I, hneed, hI, hup => by
    obtain ⟨_, _, e, I1, rfl, rfl, f1, f2⟩ := x_fill (d := d + 6) (J := J) (R := R) (a := 54) (n := 6) (v := am_i (-1)) (by decide) (by simp only [ly_kd]; decide) (by simp only [ly_kd]; decide) (by simp only [ly_ln]) (fun i => by simp only [ly_cax]) (by omega) I
    refine ⟨I1, 0, fun _ => 0, ?_, ⟨fun _ _ => Nat.zero_le _, vF_z n 0 _ (fun _ _ _ => rfl), fun h hh => ⟨hup h hh, fun _ => ?_⟩⟩, fun k hk => ?_, fun q k a1 a2 => by rw [f2 q k (by omega)]; exact hI q k a1 a2⟩
    · have e0 : am_i ((0 : Nat) : Int) = am_i 0 := rfl
      rw [sg_X2_fill_77]
      simp (disch := first | assumption | omega) only [rX hx, ly_csx, ly_cax, ly_cf, ly_kd, ly_ln, ↓Bool.cond_decide, cond_true, cond_false, ↓bI_p, ↓bV_p, ↓bL_p, bIJ_s, bVJ_s, bLJ_s, ↓am_let_s, Nat.blt, Nat.ble, Bool.and_true, Bool.true_and, Bool.and_self, Int.cast_ofNat_Int, am_i_add, am_i_sub, am_i_mul, am_ok_i, am_i_cl, n_lt, n_le, n_eq, n_lt0, n_le0, n_0lt, n_0le, n_eq0, ne_eq, ↓reduceIte, not_true_eq_false, not_false_eq_true, and_true, true_and, and_false, false_and, eq_T, eq_F, lt_T, lt_F, le_T, le_F, qn_T, qn_F, and_F, b01_T, b01_F, e_isIn, Int32.toInt_toInt64, am_i_toInt, am_l_toInt, Int.toNat_natCast, Int.reduceToNat, Int.reduceAdd, Int.reduceSub, Int.reduceMul, Int.reduceNeg, Nat.reduceAdd, Nat.reduceMul, Nat.add_zero, Nat.mul_zero, Nat.zero_add, am_zb0, am_zb1, e0, e]
    · rw [cdF_z n (fun _ _ => rfl)]; omega
    · rw [f1 k (by omega)]; rfl
  | need + 1, I, hneed, hI, hup => by
    obtain ⟨_, _, e, I1, rfl, rfl, f1, f2⟩ := x_fill (d := d + 6) (J := J) (R := R) (a := 55) (n := 6) (v := am_i 0) (by decide) (by simp only [ly_kd]; decide) (by simp only [ly_kd]; decide) (by simp only [ly_ln]) (fun i => by simp only [ly_cax]) (by omega) I
    have st := x_seat (d := d + (6 - n)) (J := J) (R := R) (I0 := I0) (fit := fit) (nb := nb) (n := n) (F := F) hx hn hnb hI0 hfit hfb n 0 (need + 1) (fun _ => 0) (fun _ => 0) I1 (by omega) hneed (fun q k a1 a2 => by rw [f2 q k (by omega)]; exact hI q k a1 a2) (fun b hb => ⟨by omega, f1 b hb⟩) (fun k hk => absurd hk (by omega))
    rw [show d + (6 - n) + n + 1 = d + 7 by omega] at st
    obtain ⟨I', fr, ⟨e1, g, g1, g2, g3, g4⟩ | ⟨e0, g1, g2, g3⟩⟩ := st
    · have e1' : am_E (d + 7) 12 0 [(0, .ref 52), (1, .int (am_i 0)), (2, .int (am_i ((need + 1 : Nat) : Int)))] [] (I1, J, R, 138) = _ := e1
      refine ⟨I', need + 1, g, ?_, ⟨fun k hk => (g2 k hk).1, g3, fun h hh => ⟨hup h hh, fun hv => g4 h (fun k hk => absurd hk (by omega)) hh hv⟩⟩, fun k hk => (g2 k hk).2, fr⟩
      rw [sg_X2_fill_77]
      simp (disch := first | assumption | omega) only [rX hx, ly_csx, ly_cax, ly_cf, ly_kd, ly_ln, ↓Bool.cond_decide, cond_true, cond_false, ↓bI_p, ↓bV_p, ↓bL_p, bIJ_s, bVJ_s, bLJ_s, ↓am_let_s, Nat.blt, Nat.ble, Bool.and_true, Bool.true_and, Bool.and_self, Int.cast_ofNat_Int, am_i_add, am_i_sub, am_i_mul, am_ok_i, am_i_cl, n_lt, n_le, n_eq, n_lt0, n_le0, n_0lt, n_0le, n_eq0, ne_eq, ↓reduceIte, not_true_eq_false, not_false_eq_true, and_true, true_and, and_false, false_and, eq_T, eq_F, lt_T, lt_F, le_T, le_F, qn_T, qn_F, and_F, b01_T, b01_F, e_isIn, Int32.toInt_toInt64, am_i_toInt, am_l_toInt, Int.toNat_natCast, Int.reduceToNat, Int.reduceAdd, Int.reduceSub, Int.reduceMul, Int.reduceNeg, Nat.reduceAdd, Nat.reduceMul, Nat.add_zero, Nat.mul_zero, Nat.zero_add, am_zb0, am_zb1, e, e1']
    · have e0' : am_E (d + 7) 12 0 [(0, .ref 52), (1, .int (am_i 0)), (2, .int (am_i ((need + 1 : Nat) : Int)))] [] (I1, J, R, 138) = _ := e0
      obtain ⟨I2, M, g, p1, p2⟩ := x_f77 hx hn hnb hI0 hfit hfb need I' (by omega) fr (fun h hh => by
        have := hup h hh
        have := g3 h (fun k hk => absurd hk (by omega)) hh
        omega)
      refine ⟨I2, M, g, ?_, p2⟩
      have em : ((need + 1 : Nat) : Int) + -1 = (need : Int) := by omega
      rw [← p1, sg_X2_fill_77]
      simp (disch := first | assumption | omega) only [rX hx, ly_csx, ly_cax, ly_cf, ly_kd, ly_ln, ↓Bool.cond_decide, cond_true, cond_false, ↓bI_p, ↓bV_p, ↓bL_p, bIJ_s, bVJ_s, bLJ_s, ↓am_let_s, Nat.blt, Nat.ble, Bool.and_true, Bool.true_and, Bool.and_self, Int.cast_ofNat_Int, am_i_add, am_i_sub, am_i_mul, am_ok_i, am_i_cl, n_lt, n_le, n_eq, n_lt0, n_le0, n_0lt, n_0le, n_eq0, ne_eq, ↓reduceIte, not_true_eq_false, not_false_eq_true, and_true, true_and, and_false, false_and, eq_T, eq_F, lt_T, lt_F, le_T, le_F, qn_T, qn_F, and_F, b01_T, b01_F, e_isIn, Int32.toInt_toInt64, am_i_toInt, am_l_toInt, Int.toNat_natCast, Int.reduceToNat, Int.reduceAdd, Int.reduceSub, Int.reduceMul, Int.reduceNeg, Nat.reduceAdd, Nat.reduceMul, Nat.add_zero, Nat.mul_zero, Nat.zero_add, am_zb0, am_zb1, e, e0', em]
theorem x_ferry {I : tI} (hx : st_Rx R) (hn : n ≤ 6) (hnb : nb ≤ 6) (hF : ∀ r, r < n → F r < 64 ∧ I 53 r = am_i (F r)) (hfit : ∀ r, r < n → ∀ b, b < 6 → F r / 2 ^ b % 2 = if fit r b = true then 1 else 0) (hfb : ∀ r b, fit r b = true → b < nb) : ∃ (I' : tI) (M : Nat) (g : Nat → Nat), am_E (d + 8) 11 0 [(0, .ref 52), (1, .int (am_i n))] [] (I, J, R, 138) = some (some (.int (am_i M)), (I', J, R, 138)) ∧ bsF fit nb n M g ∧ (∀ k, k < n → I' 54 k = am_i ((g k : Int) - 1)) ∧ ∀ q k, ¬ (52 ≤ q ∧ q ≤ 56) → I' q k = I q k := by
  obtain ⟨I1, p1, p2, p3⟩ := x_f31 (d := d + 7) (J := J) (R := R) (I0 := am_up (am_up I 52 3 (am_i n)) 56 n (am_i 0)) (n := n) (F := F) hx hn (fun r hr => ⟨(hF r hr).1, by rw [am_up_o (by omega), am_up_o (by omega)]; exact (hF r hr).2⟩) n (am_up (am_up I 52 3 (am_i n)) 56 n (am_i 0)) (Nat.le_refl _) (fun _ _ _ => rfl) (fun j j1 j2 => by
    rw [show j = n by omega, am_up_e, Nat.sub_self]
    rfl)
  have g : ∀ q k, ¬ (52 ≤ q ∧ q ≤ 56) → I1 q k = I q k := fun q k e => by rw [p2 q k (by omega), am_up_o (by omega), am_up_o (by omega)]
  have fI : ferI n F I1 := ⟨by rw [p2 _ _ (by omega), am_up_o (by omega), am_up_e], fun r hr => ⟨(hF r hr).1, by rw [p2 _ _ (by omega), am_up_o (by omega), am_up_o (by omega)]; exact (hF r hr).2⟩, p3⟩
  obtain ⟨I2, M, g', v1, v2, v3, v4⟩ := x_f77 (d := d) (J := J) (R := R) (I0 := I1) (fit := fit) (nb := nb) hx hn hnb fI hfit hfb (abS F n 0) I1 (by have := abS_b (F := F) n 0; omega) (fun _ _ _ _ => rfl) (fun h hh => vF_a (n := n) (F := F) hfit (fun k hk => by have := hh k hk; omega) n 0 _ (by omega))
  refine ⟨I2, M, g', ?_, v2, v3, fun q k e => by rw [v4 q k (by omega) (by omega), g q k e]⟩
  have c523 : am_up I 52 3 (am_i n) 52 3 = am_i n := am_up_e
  have d523 : am_up (am_up I 52 3 (am_i n)) 56 n (am_i 0) 52 3 = am_i n := by rw [am_up_o (by omega), am_up_e]
  rw [← v1, ← p1, sg_X2_fill_0]
  by_cases q : n = 0
  · subst q
    have z : am_i ((0 : Nat) : Int) = am_i 0 := rfl
    simp (disch := first | assumption | omega) only [rX hx, ly_csx, ly_cax, ly_cf, ly_kd, ly_ln, ↓Bool.cond_decide, cond_true, cond_false, ↓bI_p, ↓bV_p, ↓bL_p, bIJ_s, bVJ_s, bLJ_s, ↓am_let_s, Nat.blt, Nat.ble, Bool.and_true, Bool.true_and, Bool.and_self, Int.cast_ofNat_Int, am_i_add, am_i_sub, am_i_mul, am_ok_i, am_i_cl, n_lt, n_le, n_eq, n_lt0, n_le0, n_0lt, n_0le, n_eq0, ne_eq, ↓reduceIte, not_true_eq_false, not_false_eq_true, and_true, true_and, and_false, false_and, eq_T, eq_F, lt_T, lt_F, le_T, le_F, qn_T, qn_F, and_F, b01_T, b01_F, e_isIn, Int32.toInt_toInt64, am_i_toInt, am_l_toInt, Int.toNat_natCast, Int.reduceToNat, Int.reduceAdd, Int.reduceSub, Int.reduceMul, Int.reduceNeg, Nat.reduceAdd, Nat.reduceMul, Nat.add_zero, Nat.mul_zero, Nat.zero_add, am_zb0, am_zb1, z, am_up_e, am_up_o]
  · simp (disch := first | assumption | omega) only [rX hx, ly_csx, ly_cax, ly_cf, ly_kd, ly_ln, ↓Bool.cond_decide, cond_true, cond_false, ↓bI_p, ↓bV_p, ↓bL_p, bIJ_s, bVJ_s, bLJ_s, ↓am_let_s, Nat.blt, Nat.ble, Bool.and_true, Bool.true_and, Bool.and_self, Int.cast_ofNat_Int, am_i_add, am_i_sub, am_i_mul, am_ok_i, am_i_cl, n_lt, n_le, n_eq, n_lt0, n_le0, n_0lt, n_0le, n_eq0, ne_eq, ↓reduceIte, not_true_eq_false, not_false_eq_true, and_true, true_and, and_false, false_and, eq_T, eq_F, lt_T, lt_F, le_T, le_F, qn_T, qn_F, and_F, b01_T, b01_F, e_isIn, Int32.toInt_toInt64, am_i_toInt, am_l_toInt, Int.toNat_natCast, Int.reduceToNat, Int.reduceAdd, Int.reduceSub, Int.reduceMul, Int.reduceNeg, Nat.reduceAdd, Nat.reduceMul, Nat.add_zero, Nat.mul_zero, Nat.zero_add, am_zb0, am_zb1, c523, d523]
end FILL
/-- can ride: its key is among the notes of a boat that is out -/
def anK (f : Nat → Nat) (key : Nat) : Nat → Nat → Bool
  | 0, _ => false
  | m + 1, k => if f k = key then true else anK f key m (k + 1)
def crS (last n : Nat) (x : bt) (key : Nat) : Bool := if x.su = 0 ∧ x.mi ≠ last then anK x.sc key n 0 else false
section RIDX
variable {d : Nat} {I : tI} {J : tJ} {R : tR} {c last nb : Nat} {nt : Nat → Nat} {s : Nat → bt}
theorem x_bf39 {b n key : Nat} {x : bt} (hx : st_Rx R) (h4 : R 3 4 = c) (hc : c = 10 ∨ c = 20) (hb : b < 6) (hn : n ≤ 6) (hk8 : key < 8) (hn4 : I (c + 4) b = am_i n) (hO : bOK last n x) (hB : bX (I 31) (11 * b) n x) : ∀ (m k a : Nat), k + m = n → a < 64 → am_E (d + 2) 153 39 [(0, .ref 3), (1, .int (am_i key)), (2, .int (am_i a)), (3, .int (am_i b)), (4, .int (am_i k))] [] (I, J, R, 138) = am_E (d + 2) 153 78 [(0, .ref 3), (1, .int (am_i key)), (2, .int (am_i (if anK x.sc key m k = true then a ||| 2 ^ b else a : Nat))), (3, .int (am_i b))] [] (I, J, R, 138)
  | 0, k, a, hk, ha => by
    rw [sg_X11_boatsFor_39]
    simp (disch := first | assumption | omega) only [rX hx, ly_csx, ly_cax, ly_cf, ly_kd, ly_ln, ↓Bool.cond_decide, cond_true, cond_false, ↓bI_p, ↓bV_p, ↓bL_p, bIJ_s, bVJ_s, bLJ_s, ↓am_let_s, Nat.blt, Nat.ble, Bool.and_true, Bool.true_and, Bool.and_self, Int.cast_ofNat_Int, am_i_add, am_i_sub, am_i_mul, am_ok_i, am_i_cl, n_lt, n_le, n_eq, n_lt0, n_le0, n_0lt, n_0le, n_eq0, ne_eq, ↓reduceIte, not_true_eq_false, not_false_eq_true, and_true, true_and, and_false, false_and, eq_T, eq_F, lt_T, lt_F, le_T, le_F, qn_T, qn_F, and_F, b01_T, b01_F, e_isIn, Int32.toInt_toInt64, am_i_toInt, am_l_toInt, Int.toNat_natCast, Int.reduceToNat, Int.reduceAdd, Int.reduceSub, Int.reduceMul, Int.reduceNeg, Nat.reduceAdd, Nat.reduceMul, Nat.add_zero, Nat.mul_zero, Nat.zero_add, am_zb0, am_zb1, h4, rC hx hc, hn4]
    rfl
  | m + 1, k, a, hk, ha => by
    obtain ⟨o1, o2⟩ := or_b (a := a) (i := b) (by omega) ha
    have sl : ∀ d, am_E (d + 1) 144 0 [(0, .ref 3), (1, .int (am_i b)), (2, .int (am_i ((5 : Int) + (k : Int))))] [] (I, J, R, 138) = some (some (.int (am_i (x.sc k))), (I, J, R, 138)) := fun d => by
      rw [e_slot hx (by omega) (by omega) (by omega) (by omega), Int.toNat_natCast, show ((5 : Int) + (k : Int)).toNat = 5 + k by omega, show 11 * b + (5 + k) = 11 * b + 5 + k by omega, hB.2.2.2.2.2 k (by omega)]
    have s8 := hO.2.2.2.2.2.2 k (by omega)
    rw [sg_X11_boatsFor_39]
    by_cases q : x.sc k = key
    · have ih := x_bf39 hx h4 hc hb hn hk8 hn4 hO hB m (k + 1) (a ||| 2 ^ b) (by omega) o2
      have e : (if anK x.sc key (m + 1) k = true then a ||| 2 ^ b else a) = (if anK x.sc key m (k + 1) = true then (a ||| 2 ^ b) ||| 2 ^ b else a ||| 2 ^ b) := by
        rw [show anK x.sc key (m + 1) k = true from if_pos q, if_pos rfl, Nat.or_assoc, Nat.or_self]
        split <;> rfl
      rw [e, ← ih]
      simp (disch := first | assumption | omega) only [rX hx, ly_csx, ly_cax, ly_cf, ly_kd, ly_ln, ↓Bool.cond_decide, cond_true, cond_false, ↓bI_p, ↓bV_p, ↓bL_p, bIJ_s, bVJ_s, bLJ_s, ↓am_let_s, Nat.blt, Nat.ble, Bool.and_true, Bool.true_and, Bool.and_self, Int.cast_ofNat_Int, am_i_add, am_i_sub, am_i_mul, am_ok_i, am_i_cl, n_lt, n_le, n_eq, n_lt0, n_le0, n_0lt, n_0le, n_eq0, ne_eq, ↓reduceIte, not_true_eq_false, not_false_eq_true, and_true, true_and, and_false, false_and, eq_T, eq_F, lt_T, lt_F, le_T, le_F, qn_T, qn_F, and_F, b01_T, b01_F, e_isIn, Int32.toInt_toInt64, am_i_toInt, am_l_toInt, Int.toNat_natCast, Int.reduceToNat, Int.reduceAdd, Int.reduceSub, Int.reduceMul, Int.reduceNeg, Nat.reduceAdd, Nat.reduceMul, Nat.add_zero, Nat.mul_zero, Nat.zero_add, am_zb0, am_zb1, h4, rC hx hc, hn4, sl, o1, sg_X11_boatsFor_72, am_i_s]
    · have ih := x_bf39 hx h4 hc hb hn hk8 hn4 hO hB m (k + 1) a (by omega) ha
      rw [show anK x.sc key (m + 1) k = anK x.sc key m (k + 1) from if_neg q, ← ih]
      simp (disch := first | assumption | omega) only [rX hx, ly_csx, ly_cax, ly_cf, ly_kd, ly_ln, ↓Bool.cond_decide, cond_true, cond_false, ↓bI_p, ↓bV_p, ↓bL_p, bIJ_s, bVJ_s, bLJ_s, ↓am_let_s, Nat.blt, Nat.ble, Bool.and_true, Bool.true_and, Bool.and_self, Int.cast_ofNat_Int, am_i_add, am_i_sub, am_i_mul, am_ok_i, am_i_cl, n_lt, n_le, n_eq, n_lt0, n_le0, n_0lt, n_0le, n_eq0, ne_eq, ↓reduceIte, not_true_eq_false, not_false_eq_true, and_true, true_and, and_false, false_and, eq_T, eq_F, lt_T, lt_F, le_T, le_F, qn_T, qn_F, and_F, b01_T, b01_F, e_isIn, Int32.toInt_toInt64, am_i_toInt, am_l_toInt, Int.toNat_natCast, Int.reduceToNat, Int.reduceAdd, Int.reduceSub, Int.reduceMul, Int.reduceNeg, Nat.reduceAdd, Nat.reduceMul, Nat.add_zero, Nat.mul_zero, Nat.zero_add, am_zb0, am_zb1, h4, rC hx hc, hn4, sl, sg_X11_boatsFor_72, am_i_s]
theorem x_bf4 {key : Nat} (hx : st_Rx R) (h4 : R 3 4 = c) (hc : c = 10 ∨ c = 20) (h6 : nb ≤ 6) (hl : last ≤ 60) (hk8 : key < 8) (hI0 : I c 0 = am_i last) (hI1 : I c 1 = am_i nb) (hnt : ∀ b, b < nb → nt b ≤ 6 ∧ I (c + 4) b = am_i (nt b)) (hB : ∀ b, b < nb → bOK last (nt b) (s b) ∧ bX (I 31) (11 * b) (nt b) (s b)) : ∀ (m i a : Nat), i + m = nb → a < 64 → am_E (d + 3) 153 4 [(0, .ref 3), (1, .int (am_i key)), (2, .int (am_i a)), (3, .int (am_i i))] [] (I, J, R, 138) = some (some (.int (am_i (fiS (fun b => crS last (nt b) (s b) key) m i a))), (I, J, R, 138))
  | 0, i, a, hi, ha => by
    rw [sg_X11_boatsFor_4]
    simp (disch := first | assumption | omega) only [rX hx, ly_csx, ly_cax, ly_cf, ly_kd, ly_ln, ↓Bool.cond_decide, cond_true, cond_false, ↓bI_p, ↓bV_p, ↓bL_p, bIJ_s, bVJ_s, bLJ_s, ↓am_let_s, Nat.blt, Nat.ble, Bool.and_true, Bool.true_and, Bool.and_self, Int.cast_ofNat_Int, am_i_add, am_i_sub, am_i_mul, am_ok_i, am_i_cl, n_lt, n_le, n_eq, n_lt0, n_le0, n_0lt, n_0le, n_eq0, ne_eq, ↓reduceIte, not_true_eq_false, not_false_eq_true, and_true, true_and, and_false, false_and, eq_T, eq_F, lt_T, lt_F, le_T, le_F, qn_T, qn_F, and_F, b01_T, b01_F, e_isIn, Int32.toInt_toInt64, am_i_toInt, am_l_toInt, Int.toNat_natCast, Int.reduceToNat, Int.reduceAdd, Int.reduceSub, Int.reduceMul, Int.reduceNeg, Nat.reduceAdd, Nat.reduceMul, Nat.add_zero, Nat.mul_zero, Nat.zero_add, am_zb0, am_zb1, h4, rC hx hc, hI1]
    rfl
  | m + 1, i, a, hi, ha => by
    obtain ⟨n6, n4⟩ := hnt i (by omega)
    obtain ⟨hO, hBx⟩ := hB i (by omega)
    obtain ⟨o1, o2⟩ := or_b (a := a) (i := i) (by omega) ha
    have su1 := hO.2.2.2.1
    have xL := fun d => e_xLanded (d := d) (I := I) (J := J) (b := (i : Int)) (v := (s i).mi) (w := last) hx h4 hc (by omega) (by omega) (by rw [Int.toNat_natCast]; exact hBx.1) hI0 (by have := hO.1; omega) hl
    have sl : ∀ d, am_E (d + 1) 144 0 [(0, .ref 3), (1, .int (am_i i)), (2, .int (am_i 3))] [] (I, J, R, 138) = some (some (.int (am_i (s i).su)), (I, J, R, 138)) := fun d => by
      have := e_slot (d := d) (I := I) (J := J) (R := R) (b := (i : Int)) (k := 3) hx (by omega) (by omega) (by omega) (by omega)
      rw [Int.toNat_natCast] at this
      rw [this]
      exact congrArg (fun v => some (some (Value.int v), (I, J, R, 138))) hBx.2.2.2.1
    have e1 : fiS (fun b => crS last (nt b) (s b) key) (m + 1) i a = fiS (fun b => crS last (nt b) (s b) key) m (i + 1) (if crS last (nt i) (s i) key = true then a ||| 2 ^ i else a) := rfl
    have hlt : (if crS last (nt i) (s i) key = true then a ||| 2 ^ i else a) < 64 := by split <;> assumption
    have ih := x_bf4 hx h4 hc h6 hl hk8 hI0 hI1 hnt hB m (i + 1) _ (by omega) hlt
    have f78 : ∀ v : Nat, v = (if crS last (nt i) (s i) key = true then a ||| 2 ^ i else a) → am_E (d + 3) 153 78 [(0, .ref 3), (1, .int (am_i key)), (2, .int (am_i v)), (3, .int (am_i i))] [] (I, J, R, 138) = some (some (.int (am_i (fiS (fun b => crS last (nt b) (s b) key) (m + 1) i a))), (I, J, R, 138)) := fun v hv => by
      rw [e1, ← ih, sg_X11_boatsFor_78, hv]
      simp (disch := first | assumption | omega) only [↓Bool.cond_decide, cond_true, cond_false, ↓am_let_s, ↓bI_p, bIJ_s, ↓bV_p, bVJ_s, ↓bL_p, bLJ_s, ly_cf, Bool.and_self, Bool.and_true, am_i_add, am_i_sub, am_i_mul, am_ok_i, am_i_cl, n_lt, n_le, n_eq, n_lt0, n_le0, n_0lt, n_0le, n_eq0, ne_eq, ↓reduceIte, not_true_eq_false, not_false_eq_true, and_true, true_and, and_false, false_and, eq_T, eq_F, lt_T, lt_F, le_T, le_F, qn_T, qn_F, and_F, b01_T, b01_F, e_isIn, Int32.toInt_toInt64, am_i_toInt, am_l_toInt, Int.toNat_natCast, Int.reduceToNat, Int.reduceAdd, Int.reduceSub, Int.reduceMul, Int.reduceNeg, Nat.reduceAdd, Nat.reduceMul, Nat.add_zero, Nat.mul_zero, Nat.zero_add, am_zb0, am_zb1, am_i_s]
    rw [sg_X11_boatsFor_4]
    by_cases q : (s i).mi = last
    · have f := f78 a (by rw [show crS last (nt i) (s i) key = false from if_neg (fun e => e.2 q)]; rfl)
      simp (disch := first | assumption | omega) only [rX hx, ly_csx, ly_cax, ly_cf, ly_kd, ly_ln, ↓Bool.cond_decide, cond_true, cond_false, ↓bI_p, ↓bV_p, ↓bL_p, bIJ_s, bVJ_s, bLJ_s, ↓am_let_s, Nat.blt, Nat.ble, Bool.and_true, Bool.true_and, Bool.and_self, Int.cast_ofNat_Int, am_i_add, am_i_sub, am_i_mul, am_ok_i, am_i_cl, n_lt, n_le, n_eq, n_lt0, n_le0, n_0lt, n_0le, n_eq0, ne_eq, ↓reduceIte, not_true_eq_false, not_false_eq_true, and_true, true_and, and_false, false_and, eq_T, eq_F, lt_T, lt_F, le_T, le_F, qn_T, qn_F, and_F, b01_T, b01_F, e_isIn, Int32.toInt_toInt64, am_i_toInt, am_l_toInt, Int.toNat_natCast, Int.reduceToNat, Int.reduceAdd, Int.reduceSub, Int.reduceMul, Int.reduceNeg, Nat.reduceAdd, Nat.reduceMul, Nat.add_zero, Nat.mul_zero, Nat.zero_add, am_zb0, am_zb1, h4, rC hx hc, hI1, xL, b01_t q, f]
    · by_cases q1 : (s i).su = 0
      · have f := f78 _ (by rw [show crS last (nt i) (s i) key = anK (s i).sc key (nt i) 0 from if_pos ⟨q1, q⟩])
        have l39 : am_E (d + 3) 153 39 [(0, .ref 3), (1, .int (am_i key)), (2, .int (am_i a)), (3, .int (am_i i)), (4, .int (am_i 0))] [] (I, J, R, 138) = _ := x_bf39 (d := d + 1) (J := J) hx h4 hc (by omega) n6 hk8 n4 hO hBx (nt i) 0 a (by omega) ha
        simp (disch := first | assumption | omega) only [rX hx, ly_csx, ly_cax, ly_cf, ly_kd, ly_ln, ↓Bool.cond_decide, cond_true, cond_false, ↓bI_p, ↓bV_p, ↓bL_p, bIJ_s, bVJ_s, bLJ_s, ↓am_let_s, Nat.blt, Nat.ble, Bool.and_true, Bool.true_and, Bool.and_self, Int.cast_ofNat_Int, am_i_add, am_i_sub, am_i_mul, am_ok_i, am_i_cl, n_lt, n_le, n_eq, n_lt0, n_le0, n_0lt, n_0le, n_eq0, ne_eq, ↓reduceIte, not_true_eq_false, not_false_eq_true, and_true, true_and, and_false, false_and, eq_T, eq_F, lt_T, lt_F, le_T, le_F, qn_T, qn_F, and_F, b01_T, b01_F, e_isIn, Int32.toInt_toInt64, am_i_toInt, am_l_toInt, Int.toNat_natCast, Int.reduceToNat, Int.reduceAdd, Int.reduceSub, Int.reduceMul, Int.reduceNeg, Nat.reduceAdd, Nat.reduceMul, Nat.add_zero, Nat.mul_zero, Nat.zero_add, am_zb0, am_zb1, h4, rC hx hc, hI1, xL, b01_f q, sl, q1, l39, f]
      · have f := f78 a (by rw [show crS last (nt i) (s i) key = false from if_neg (fun e => q1 e.1)]; rfl)
        have q2 : (s i).su = 1 := by omega
        simp (disch := first | assumption | omega) only [rX hx, ly_csx, ly_cax, ly_cf, ly_kd, ly_ln, ↓Bool.cond_decide, cond_true, cond_false, ↓bI_p, ↓bV_p, ↓bL_p, bIJ_s, bVJ_s, bLJ_s, ↓am_let_s, Nat.blt, Nat.ble, Bool.and_true, Bool.true_and, Bool.and_self, Int.cast_ofNat_Int, am_i_add, am_i_sub, am_i_mul, am_ok_i, am_i_cl, n_lt, n_le, n_eq, n_lt0, n_le0, n_0lt, n_0le, n_eq0, ne_eq, ↓reduceIte, not_true_eq_false, not_false_eq_true, and_true, true_and, and_false, false_and, eq_T, eq_F, lt_T, lt_F, le_T, le_F, qn_T, qn_F, and_F, b01_T, b01_F, e_isIn, Int32.toInt_toInt64, am_i_toInt, am_l_toInt, Int.toNat_natCast, Int.reduceToNat, Int.reduceAdd, Int.reduceSub, Int.reduceMul, Int.reduceNeg, Nat.reduceAdd, Nat.reduceMul, Nat.add_zero, Nat.mul_zero, Nat.zero_add, am_zb0, am_zb1, h4, rC hx hc, hI1, xL, b01_f q, sl, q2, f]
end RIDX
