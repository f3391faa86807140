/-! ===== tells ===== -/
/-- how many of the first i boats that are meant have the note v -/
def cnS (p : Nat → Bool) (f : Nat → Nat) (v : Nat) : Nat → Nat
  | 0 => 0
  | i + 1 => cnS p f v i + (if p i = true ∧ f i = v then 1 else 0)
/-- the most of them, as the class gathers it -/
def mxS (p : Nat → Bool) (f : Nat → Nat) : Nat → Nat
  | 0 => 0
  | i + 1 => if p i = true then max (mxS p f i) (cnS p f (f i) (i + 1)) else mxS p f i
/-- as the reference does: over the notes -/
def mvS (p : Nat → Bool) (f : Nat → Nat) (n : Nat) : Nat → Nat
  | 0 => 0
  | v + 1 => max (mvS p f n v) (cnS p f v n)
theorem cnS_b {p : Nat → Bool} {f : Nat → Nat} {v : Nat} : ∀ i, cnS p f v i ≤ i
  | 0 => Nat.le_refl _
  | i + 1 => by
    have := cnS_b (p := p) (f := f) (v := v) i
    show cnS p f v i + (if p i = true ∧ f i = v then 1 else 0) ≤ i + 1
    split <;> omega
theorem cnS_1 {p : Nat → Bool} {f : Nat → Nat} {v : Nat} (i : Nat) : cnS p f v (i + 1) = cnS p f v i + (if p i = true ∧ f i = v then 1 else 0) := rfl
theorem mxS_b {p : Nat → Bool} {f : Nat → Nat} : ∀ i, mxS p f i ≤ i
  | 0 => Nat.le_refl _
  | i + 1 => by
    have := mxS_b (p := p) (f := f) i
    have := cnS_b (p := p) (f := f) (v := f i) (i + 1)
    show (if p i = true then max (mxS p f i) (cnS p f (f i) (i + 1)) else mxS p f i) ≤ i + 1
    split <;> omega
theorem mxS_u {p : Nat → Bool} {f : Nat → Nat} (v : Nat) : ∀ i, cnS p f v i ≤ mxS p f i
  | 0 => Nat.le_refl _
  | i + 1 => by
    have ih := mxS_u (p := p) (f := f) v i
    show cnS p f v (i + 1) ≤ (if p i = true then max (mxS p f i) (cnS p f (f i) (i + 1)) else mxS p f i)
    by_cases q : p i = true
    · rw [if_pos q]
      by_cases e : f i = v
      · rw [e]; omega
      · have : cnS p f v (i + 1) = cnS p f v i := by rw [cnS_1, if_neg (fun x => e x.2), Nat.add_zero]
        omega
    · have : cnS p f v (i + 1) = cnS p f v i := by rw [cnS_1, if_neg (fun x => q x.1), Nat.add_zero]
      rw [if_neg q]
      omega
theorem cnS_m {p : Nat → Bool} {f : Nat → Nat} {v : Nat} (i : Nat) : cnS p f v i ≤ cnS p f v (i + 1) := by rw [cnS_1]; omega
theorem mxS_a {p : Nat → Bool} {f : Nat → Nat} {N : Nat} : ∀ i, (∀ b, b < i → f b ≤ N) → ∃ v, v ≤ N ∧ mxS p f i ≤ cnS p f v i
  | 0, _ => ⟨0, Nat.zero_le _, Nat.le_refl _⟩
  | i + 1, h => by
    obtain ⟨v, v1, v2⟩ := mxS_a (p := p) (f := f) (N := N) i (fun b hb => h b (by omega))
    have := cnS_m (p := p) (f := f) (v := v) i
    have e : mxS p f (i + 1) = (if p i = true then max (mxS p f i) (cnS p f (f i) (i + 1)) else mxS p f i) := rfl
    rw [e]
    by_cases q : p i = true
    · rw [if_pos q]
      by_cases q2 : mxS p f i ≤ cnS p f (f i) (i + 1)
      · exact ⟨f i, h i (by omega), by omega⟩
      · exact ⟨v, v1, by omega⟩
    · rw [if_neg q]
      exact ⟨v, v1, by omega⟩
theorem mvS_u {p : Nat → Bool} {f : Nat → Nat} {n : Nat} : ∀ N v, v < N → cnS p f v n ≤ mvS p f n N
  | 0, v, h => by omega
  | N + 1, v, h => by
    show _ ≤ max (mvS p f n N) (cnS p f N n)
    by_cases e : v = N
    · rw [e]; omega
    · have := mvS_u (p := p) (f := f) (n := n) N v (by omega)
      omega
theorem mvS_l {p : Nat → Bool} {f : Nat → Nat} {n : Nat} : ∀ N, mvS p f n N ≤ mxS p f n
  | 0 => Nat.zero_le _
  | N + 1 => by
    have h1 := mvS_l (p := p) (f := f) (n := n) N
    have h2 := mxS_u (p := p) (f := f) N n
    show max (mvS p f n N) (cnS p f N n) ≤ _
    omega
theorem mv_mx {p : Nat → Bool} {f : Nat → Nat} {n : Nat} (h : ∀ b, b < n → f b ≤ 8) : mvS p f n 9 = mxS p f n := by
  obtain ⟨v, v1, v2⟩ := mxS_a (p := p) (f := f) (N := 8) n h
  have := mvS_u (p := p) (f := f) (n := n) 9 v (by omega)
  have := mvS_l (p := p) (f := f) (n := n) 9
  omega
/-- the hour that tells most -/
def tlS (mo : Nat → Nat) : Nat → Nat → Int → Nat → Int × Nat
  | 0, _, b, f => (b, f)
  | m + 1, k, b, f => if mo k < f then tlS mo m (k + 1) k (mo k) else tlS mo m (k + 1) b f
theorem tb_or (a i b : Nat) : (a ||| 2 ^ i) / 2 ^ b % 2 = if b = i then 1 else a / 2 ^ b % 2 := by
  have h := Nat.testBit_or a (2 ^ i) b
  rw [Nat.testBit_two_pow] at h
  rw [Nat.testBit_eq_decide_div_mod_eq, Nat.testBit_eq_decide_div_mod_eq] at h
  by_cases e : b = i
  · rw [if_pos e]
    subst e
    simpa using h
  · rw [decide_eq_false (fun x => e x.symm : ¬ i = b), Bool.or_false, decide_eq_decide] at h
    rw [if_neg e]
    omega
theorem fiS_t {p : Nat → Bool} {b : Nat} : ∀ (m i a : Nat), a < 2 ^ i → fiS p m i a / 2 ^ b % 2 = if i ≤ b ∧ b < i + m ∧ p b = true then 1 else a / 2 ^ b % 2
  | 0, i, a, h => by
    rw [if_neg (by omega)]
    rfl
  | m + 1, i, a, h => by
    have hp : 2 ^ (i + 1) = 2 * 2 ^ i := by rw [Nat.pow_succ]; omega
    have ha : (if p i = true then a ||| 2 ^ i else a) < 2 ^ (i + 1) := by
      split
      · exact Nat.or_lt_two_pow (by omega) (by have := Nat.two_pow_pos i; omega)
      · omega
    have e : fiS p (m + 1) i a = fiS p m (i + 1) (if p i = true then a ||| 2 ^ i else a) := rfl
    rw [e, fiS_t m (i + 1) _ ha]
    by_cases q : i + 1 ≤ b ∧ b < i + 1 + m ∧ p b = true
    · rw [if_pos q, if_pos ⟨by omega, by omega, q.2.2⟩]
    · rw [if_neg q]
      by_cases qp : p i = true
      · rw [if_pos qp, tb_or]
        by_cases eb : b = i
        · rw [if_pos eb, if_pos ⟨by omega, by omega, by rw [eb]; exact qp⟩]
        · rw [if_neg eb, if_neg (fun x => q ⟨by omega, by omega, x.2.2⟩)]
      · rw [if_neg qp, if_neg (fun x => ?_)]
        by_cases eb : b = i
        · exact qp (eb ▸ x.2.2)
        · exact q ⟨by omega, by omega, x.2.2⟩
theorem fiS_64 {p : Nat → Bool} : ∀ (m i a : Nat), i + m ≤ 6 → a < 64 → fiS p m i a < 64
  | 0, _, _, _, h => h
  | m + 1, i, a, hi, h => by
    refine fiS_64 (p := p) m (i + 1) _ (by omega) ?_
    split
    · exact (or_b (by omega) h).2
    · exact h
section TELLS
variable {d : Nat} {J : tJ} {R : tR} {nb : Nat}
theorem bit_t {B b : Nat} (hB : B < 64) (hb : b < 6) : (am_i (B : Int) >>> (am_i (b : Int) &&& 31)) &&& am_i 1 = am_i ((B / 2 ^ b % 2 : Nat) : Int) := by
  rw [s_31 (by omega), s_shr (by omega) (by omega), s_1]
theorem x_ml {I0 : tI} {B k : Nat} {p : Nat → Bool} {f : Nat → Nat} (hx : st_Rx R) (h6 : nb ≤ 6) (hB : B < 64) (hk : k < 31) (hp : ∀ b, b < 6 → B / 2 ^ b % 2 = if b < nb ∧ p b = true then 1 else 0) (hf : ∀ b, b < nb → f b ≤ 8 ∧ I0 59 (31 * b + k) = am_i (f b)) : ∀ (m i : Nat) (I : tI), i + m = 6 → (∀ q j, q ≠ 60 → I q j = I0 q j) → (∀ v, v < 9 → I 60 v = am_i (cnS (fun b => decide (b < nb) && p b) f v i)) → ∃ I', am_E (d + 1) 35 13 [(0, .ref 57), (1, .int (am_i B)), (2, .int (am_i k)), (3, .int (am_i (mxS (fun b => decide (b < nb) && p b) f i))), (4, .int (am_i i))] [] (I, J, R, 138) = some (some (.int (am_i (mxS (fun b => decide (b < nb) && p b) f 6))), (I', J, R, 138)) ∧ ∀ q j, q ≠ 60 → I' q j = I0 q j
  | 0, i, I, hi, hI, hc => by
    have : i = 6 := by omega
    subst this
    refine ⟨I, ?_, hI⟩
    rw [sg_X4_mostLeft_13]
    simp (disch := first | assumption | omega) only [am_i_add, am_i_sub, am_i_mul, am_ok_i, am_i_cl, n_lt, n_le, n_eq, n_lt0, n_le0, n_0lt, n_0le, n_eq0, ne_eq, ↓reduceIte, not_true_eq_false, not_false_eq_true, and_true, true_and, and_false, false_and, eq_T, eq_F, lt_T, lt_F, le_T, le_F, qn_T, qn_F, and_F, b01_T, b01_F, e_isIn, Int32.toInt_toInt64, am_i_toInt, am_l_toInt, Int.toNat_natCast, Int.reduceToNat, Int.reduceAdd, Int.reduceSub, Int.reduceMul, Int.reduceNeg, Nat.reduceAdd, Nat.reduceMul, Nat.add_zero, Nat.mul_zero, Nat.zero_add, am_zb0, am_zb1, ↓Bool.cond_decide, cond_true, cond_false, ↓am_let_s, ↓bI_p, bIJ_s, ↓bV_p, bVJ_s, ↓bL_p, bLJ_s, ly_cf, Bool.and_self, Bool.and_true]
  | m + 1, i, I, hi, hI, hc => by
    have ei : ((i : Int) * 31 + (k : Int)).toNat = 31 * i + k := by omega
    have bt := bit_t (B := B) (b := i) hB (by omega)
    rw [hp i (by omega)] at bt
    by_cases q : i < nb ∧ p i = true
    · obtain ⟨f8, f59⟩ := hf i q.1
      rw [if_pos q] at bt
      have qd : (decide (i < nb) && p i) = true := by simp [q.1, q.2]
      have e59 : I 59 (31 * i + k) = am_i (f i) := by rw [hI _ _ (by omega)]; exact f59
      have e60 := hc (f i) (by omega)
      have cb := cnS_b (p := fun b => decide (b < nb) && p b) (f := f) (v := f i) i
      have mb := mxS_b (p := fun b => decide (b < nb) && p b) (f := f) i
      have e1 : cnS (fun b => decide (b < nb) && p b) f (f i) (i + 1) = cnS (fun b => decide (b < nb) && p b) f (f i) i + 1 := by rw [cnS_1, if_pos ⟨qd, rfl⟩]
      have e2 : mxS (fun b => decide (b < nb) && p b) f (i + 1) = max (mxS (fun b => decide (b < nb) && p b) f i) (cnS (fun b => decide (b < nb) && p b) f (f i) i + 1) := by rw [← e1]; exact if_pos qd
      obtain ⟨I', g1, g2⟩ := x_ml hx h6 hB hk hp hf m (i + 1) (am_up I 60 (f i) (am_i ((cnS (fun b => decide (b < nb) && p b) f (f i) i + 1 : Nat) : Int))) (by omega) (fun q j e => by rw [am_up_o (by omega), hI q j e]) (fun v hv => by
        by_cases ev : v = f i
        · subst ev
          rw [am_up_e, e1]
        · rw [am_up_o (by omega), hc v hv, cnS_1, if_neg (fun x => ev x.2.symm), Nat.add_zero])
      refine ⟨I', ?_, g2⟩
      rw [← g1, sg_X4_mostLeft_13, e2]
      have ec : ((cnS (fun b => decide (b < nb) && p b) f (f i) i : Nat) : Int) + 1 = ((cnS (fun b => decide (b < nb) && p b) f (f i) i + 1 : Nat) : Int) := by omega
      generalize cnS (fun b => decide (b < nb) && p b) f (f i) i = C at *
      generalize mxS (fun b => decide (b < nb) && p b) f i = X at *
      by_cases q2 : X < C + 1
      · have e3 : max X (C + 1) = C + 1 := by omega
        have q3 : am_i (X : Int) < am_i ((C + 1 : Nat) : Int) := (n_lt (by omega) (by omega) (by omega) (by omega)).mpr (by omega)
        simp (disch := first | assumption | omega) only [rX hx, ly_csx, ly_cax, ly_cf, ly_kd, ly_ln, ↓Bool.cond_decide, cond_true, cond_false, ↓bI_p, ↓bV_p, ↓bL_p, bIJ_s, bVJ_s, bLJ_s, ↓am_let_s, Nat.blt, Nat.ble, Bool.and_true, Bool.true_and, Bool.and_self, Int.cast_ofNat_Int, am_i_add, am_i_sub, am_i_mul, am_ok_i, am_i_cl, n_lt, n_le, n_eq, n_lt0, n_le0, n_0lt, n_0le, n_eq0, ne_eq, ↓reduceIte, not_true_eq_false, not_false_eq_true, and_true, true_and, and_false, false_and, eq_T, eq_F, lt_T, lt_F, le_T, le_F, qn_T, qn_F, and_F, b01_T, b01_F, e_isIn, Int32.toInt_toInt64, am_i_toInt, am_l_toInt, Int.toNat_natCast, Int.reduceToNat, Int.reduceAdd, Int.reduceSub, Int.reduceMul, Int.reduceNeg, Nat.reduceAdd, Nat.reduceMul, Nat.add_zero, Nat.mul_zero, Nat.zero_add, am_zb0, am_zb1, ei, e59, bt, e60, ec, am_up_e, if_pos q3, e3, sg_X4_mostLeft_79, am_i_s]
      · have e3 : max X (C + 1) = X := by omega
        have q3 : ¬ am_i (X : Int) < am_i ((C + 1 : Nat) : Int) := fun e => absurd ((n_lt (by omega) (by omega) (by omega) (by omega)).mp e) (by omega)
        simp (disch := first | assumption | omega) only [rX hx, ly_csx, ly_cax, ly_cf, ly_kd, ly_ln, ↓Bool.cond_decide, cond_true, cond_false, ↓bI_p, ↓bV_p, ↓bL_p, bIJ_s, bVJ_s, bLJ_s, ↓am_let_s, Nat.blt, Nat.ble, Bool.and_true, Bool.true_and, Bool.and_self, Int.cast_ofNat_Int, am_i_add, am_i_sub, am_i_mul, am_ok_i, am_i_cl, n_lt, n_le, n_eq, n_lt0, n_le0, n_0lt, n_0le, n_eq0, ne_eq, ↓reduceIte, not_true_eq_false, not_false_eq_true, and_true, true_and, and_false, false_and, eq_T, eq_F, lt_T, lt_F, le_T, le_F, qn_T, qn_F, and_F, b01_T, b01_F, e_isIn, Int32.toInt_toInt64, am_i_toInt, am_l_toInt, Int.toNat_natCast, Int.reduceToNat, Int.reduceAdd, Int.reduceSub, Int.reduceMul, Int.reduceNeg, Nat.reduceAdd, Nat.reduceMul, Nat.add_zero, Nat.mul_zero, Nat.zero_add, am_zb0, am_zb1, ei, e59, bt, e60, ec, am_up_e, if_neg q3, e3, sg_X4_mostLeft_79, am_i_s]
    · rw [if_neg q] at bt
      have qd : ¬ (decide (i < nb) && p i) = true := fun e => q (by simpa using e)
      have e2 : mxS (fun b => decide (b < nb) && p b) f (i + 1) = mxS (fun b => decide (b < nb) && p b) f i := if_neg qd
      obtain ⟨I', g1, g2⟩ := x_ml hx h6 hB hk hp hf m (i + 1) I (by omega) hI (fun v hv => by rw [hc v hv, cnS_1, if_neg (fun x => qd x.1), Nat.add_zero])
      refine ⟨I', ?_, g2⟩
      rw [← g1, sg_X4_mostLeft_13, e2]
      have b0 : am_i ((0 : Nat) : Int) = am_i 0 := rfl
      simp (disch := first | assumption | omega) only [rX hx, ly_csx, ly_cax, ly_cf, ly_kd, ly_ln, ↓Bool.cond_decide, cond_true, cond_false, ↓bI_p, ↓bV_p, ↓bL_p, bIJ_s, bVJ_s, bLJ_s, ↓am_let_s, Nat.blt, Nat.ble, Bool.and_true, Bool.true_and, Bool.and_self, Int.cast_ofNat_Int, am_i_add, am_i_sub, am_i_mul, am_ok_i, am_i_cl, n_lt, n_le, n_eq, n_lt0, n_le0, n_0lt, n_0le, n_eq0, ne_eq, ↓reduceIte, not_true_eq_false, not_false_eq_true, and_true, true_and, and_false, false_and, eq_T, eq_F, lt_T, lt_F, le_T, le_F, qn_T, qn_F, and_F, b01_T, b01_F, e_isIn, Int32.toInt_toInt64, am_i_toInt, am_l_toInt, Int.toNat_natCast, Int.reduceToNat, Int.reduceAdd, Int.reduceSub, Int.reduceMul, Int.reduceNeg, Nat.reduceAdd, Nat.reduceMul, Nat.add_zero, Nat.mul_zero, Nat.zero_add, am_zb0, am_zb1, ei, bt, b0, sg_X4_mostLeft_79, am_i_s]
theorem mxS_n {p : Nat → Bool} {f : Nat → Nat} : ∀ m, mxS (fun b => decide (b < nb) && p b) f (nb + m) = mxS (fun b => decide (b < nb) && p b) f nb
  | 0 => rfl
  | m + 1 => by
    have e : mxS (fun b => decide (b < nb) && p b) f (nb + m + 1) = mxS (fun b => decide (b < nb) && p b) f (nb + m) := if_neg (by simp; omega)
    exact e.trans (mxS_n m)
theorem x_mostLeft {I : tI} {B k : Nat} {p : Nat → Bool} {f : Nat → Nat} (hx : st_Rx R) (h6 : nb ≤ 6) (hB : B < 64) (hk : k < 31) (hp : ∀ b, b < 6 → B / 2 ^ b % 2 = if b < nb ∧ p b = true then 1 else 0) (hf : ∀ b, b < nb → f b ≤ 8 ∧ I 59 (31 * b + k) = am_i (f b)) : ∃ I', am_E (d + 2) 35 0 [(0, .ref 57), (1, .int (am_i B)), (2, .int (am_i k))] [] (I, J, R, 138) = some (some (.int (am_i (mxS (fun b => decide (b < nb) && p b) f nb))), (I', J, R, 138)) ∧ ∀ q j, q ≠ 60 → I' q j = I q j := by
  obtain ⟨_, _, e, I1, rfl, rfl, f1, f2⟩ := x_fill (d := d) (J := J) (R := R) (a := 60) (n := 9) (v := am_i 0) (by decide) (by simp only [ly_kd]; decide) (by simp only [ly_kd]; decide) (by simp only [ly_ln]) (fun i => by simp only [ly_cax]) (by omega) I
  have g : ∀ q j, q ≠ 60 → I1 q j = I q j := fun q j h => f2 q j (by omega)
  obtain ⟨I2, g1, g2⟩ := x_ml (d := d + 1) (J := J) (R := R) (I0 := I1) (B := B) (k := k) (p := p) (f := f) hx h6 hB hk hp (fun b hb => ⟨(hf b hb).1, by rw [g _ _ (by omega)]; exact (hf b hb).2⟩) 6 0 I1 (by omega) (fun _ _ _ => rfl) (fun v hv => f1 v hv)
  have g1' : am_E (d + 2) 35 13 [(0, .ref 57), (1, .int (am_i B)), (2, .int (am_i k)), (3, .int (am_i 0)), (4, .int (am_i 0))] [] (I1, J, R, 138) = _ := g1
  have e6 : mxS (fun b => decide (b < nb) && p b) f 6 = mxS (fun b => decide (b < nb) && p b) f nb := by
    have := mxS_n (nb := nb) (p := p) (f := f) (6 - nb)
    rw [show nb + (6 - nb) = 6 by omega] at this
    exact this
  refine ⟨I2, ?_, fun q j h => by rw [g2 q j h, g q j h]⟩
  rw [sg_X4_mostLeft_0]
  simp (disch := first | assumption | omega) only [↓Bool.cond_decide, cond_true, cond_false, ↓am_let_s, ↓bI_p, bIJ_s, ↓bV_p, bVJ_s, ↓bL_p, bLJ_s, ly_cf, Bool.and_self, Bool.and_true, rX hx, e, g1', e6]
def wgC (q j : Nat) : Prop := q = 60 ∨ (q = 57 ∧ (j = 5 ∨ j = 6))
theorem x_weigh {I0 : tI} {B H : Nat} {mo : Nat → Nat} (hx : st_Rx R) (hH : H ≤ 31) (hB0 : B ≠ 0) (hB : B < 64) (h3 : I0 57 3 = am_i H) (hmo : ∀ k, k < H → mo k ≤ 6) (hml : ∀ k I, k < H → (∀ q j, ¬ wgC q j → I q j = I0 q j) → ∃ I', am_E (d + 2) 35 0 [(0, .ref 57), (1, .int (am_i B)), (2, .int (am_i k))] [] (I, J, R, 138) = some (some (.int (am_i (mo k))), (I', J, R, 138)) ∧ ∀ q j, q ≠ 60 → I' q j = I q j) : ∀ (m k : Nat) (b : Int) (f : Nat) (I : tI), k + m = H → f ≤ 7 → (∀ q j, ¬ wgC q j → I q j = I0 q j) → I 57 5 = am_i b → I 57 6 = am_i f → ∃ I', am_E (d + 3) 34 13 [(0, .ref 57), (1, .int (am_i B)), (2, .int (am_i k))] [] (I, J, R, 138) = am_E (d + 3) 34 56 [(0, .ref 57)] [] (I', J, R, 138) ∧ I' 57 5 = am_i (tlS mo m k b f).1 ∧ I' 57 6 = am_i (tlS mo m k b f).2 ∧ ∀ q j, ¬ wgC q j → I' q j = I0 q j
  | 0, k, b, f, I, hk, hf, hI, h5, h6 => by
    have e3 : I 57 3 = am_i H := by rw [hI _ _ (by unfold wgC; omega)]; exact h3
    refine ⟨I, ?_, h5, h6, hI⟩
    rw [sg_X4_weigh_13]
    simp (disch := first | assumption | omega) only [am_i_add, am_i_sub, am_i_mul, am_ok_i, am_i_cl, n_lt, n_le, n_eq, n_lt0, n_le0, n_0lt, n_0le, n_eq0, ne_eq, ↓reduceIte, not_true_eq_false, not_false_eq_true, and_true, true_and, and_false, false_and, eq_T, eq_F, lt_T, lt_F, le_T, le_F, qn_T, qn_F, and_F, b01_T, b01_F, e_isIn, Int32.toInt_toInt64, am_i_toInt, am_l_toInt, Int.toNat_natCast, Int.reduceToNat, Int.reduceAdd, Int.reduceSub, Int.reduceMul, Int.reduceNeg, Nat.reduceAdd, Nat.reduceMul, Nat.add_zero, Nat.mul_zero, Nat.zero_add, am_zb0, am_zb1, ↓Bool.cond_decide, cond_true, cond_false, ↓am_let_s, ↓bI_p, bIJ_s, ↓bV_p, bVJ_s, ↓bL_p, bLJ_s, ly_cf, Bool.and_self, Bool.and_true, e3]
  | m + 1, k, b, f, I, hk, hf, hI, h5, h6 => by
    have e3 : I 57 3 = am_i H := by rw [hI _ _ (by unfold wgC; omega)]; exact h3
    obtain ⟨I1, g1, g2⟩ := hml k I (by omega) hI
    have gI : ∀ q j, ¬ wgC q j → I1 q j = I0 q j := fun q j e => by rw [g2 q j (fun x => e (Or.inl x)), hI q j e]
    have e6 : I1 57 6 = am_i f := by rw [g2 _ _ (by omega)]; exact h6
    have mk := hmo k (by omega)
    have e : tlS mo (m + 1) k b f = if mo k < f then tlS mo m (k + 1) k (mo k) else tlS mo m (k + 1) b f := rfl
    by_cases q : mo k < f
    · rw [if_pos q] at e
      obtain ⟨I', p1, p2, p3, p4⟩ := x_weigh hx hH hB0 hB h3 hmo hml m (k + 1) k (mo k) (am_up (am_up I1 57 6 (am_i (mo k))) 57 5 (am_i k)) (by omega) (by omega) (fun q j h => by
        unfold wgC at h
        rw [am_up_o (by omega), am_up_o (by omega)]
        exact gI q j h) am_up_e (by rw [am_up_o (by omega), am_up_e])
      refine ⟨I', ?_, by rw [e]; exact p2, by rw [e]; exact p3, p4⟩
      rw [← p1, sg_X4_weigh_13]
      simp (disch := first | assumption | omega) only [am_i_add, am_i_sub, am_i_mul, am_ok_i, am_i_cl, n_lt, n_le, n_eq, n_lt0, n_le0, n_0lt, n_0le, n_eq0, ne_eq, ↓reduceIte, not_true_eq_false, not_false_eq_true, and_true, true_and, and_false, false_and, eq_T, eq_F, lt_T, lt_F, le_T, le_F, qn_T, qn_F, and_F, b01_T, b01_F, e_isIn, Int32.toInt_toInt64, am_i_toInt, am_l_toInt, Int.toNat_natCast, Int.reduceToNat, Int.reduceAdd, Int.reduceSub, Int.reduceMul, Int.reduceNeg, Nat.reduceAdd, Nat.reduceMul, Nat.add_zero, Nat.mul_zero, Nat.zero_add, am_zb0, am_zb1, ↓Bool.cond_decide, cond_true, cond_false, ↓am_let_s, ↓bI_p, bIJ_s, ↓bV_p, bVJ_s, ↓bL_p, bLJ_s, ly_cf, Bool.and_self, Bool.and_true, e3, g1, e6, sg_X4_weigh_50, am_i_s]
    · rw [if_neg q] at e
      obtain ⟨I', p1, p2, p3, p4⟩ := x_weigh hx hH hB0 hB h3 hmo hml m (k + 1) b f I1 (by omega) hf gI (by rw [g2 _ _ (by omega)]; exact h5) e6
      refine ⟨I', ?_, by rw [e]; exact p2, by rw [e]; exact p3, p4⟩
      rw [← p1, sg_X4_weigh_13]
      simp (disch := first | assumption | omega) only [am_i_add, am_i_sub, am_i_mul, am_ok_i, am_i_cl, n_lt, n_le, n_eq, n_lt0, n_le0, n_0lt, n_0le, n_eq0, ne_eq, ↓reduceIte, not_true_eq_false, not_false_eq_true, and_true, true_and, and_false, false_and, eq_T, eq_F, lt_T, lt_F, le_T, le_F, qn_T, qn_F, and_F, b01_T, b01_F, e_isIn, Int32.toInt_toInt64, am_i_toInt, am_l_toInt, Int.toNat_natCast, Int.reduceToNat, Int.reduceAdd, Int.reduceSub, Int.reduceMul, Int.reduceNeg, Nat.reduceAdd, Nat.reduceMul, Nat.add_zero, Nat.mul_zero, Nat.zero_add, am_zb0, am_zb1, ↓Bool.cond_decide, cond_true, cond_false, ↓am_let_s, ↓bI_p, bIJ_s, ↓bV_p, bVJ_s, ↓bL_p, bLJ_s, ly_cf, Bool.and_self, Bool.and_true, e3, g1, e6, sg_X4_weigh_50, am_i_s]
theorem m_ma18 {I : tI} {B k v X : Nat} {p : Nat → Bool} {f : Nat → Nat} (hm : st_Rm R) (h6 : nb ≤ 6) (hB : B < 64) (hk : k < 31) (hX : X ≤ 6) (hv : v ≤ 8) (h94 : I 94 3 = am_i nb) (hp : ∀ b, b < 6 → B / 2 ^ b % 2 = if b < nb ∧ p b = true then 1 else 0) (hf : ∀ b, b < nb → f b ≤ 8 ∧ I 109 (31 * b + k) = am_i (f b)) : ∀ (m i : Nat), i + m = nb → am_E (d + 2) 246 18 [(0, .ref 64), (1, .int (am_i B)), (2, .int (am_i k)), (3, .int (am_i X)), (4, .int (am_i v)), (5, .int (am_i (cnS (fun b => decide (b < nb) && p b) f v i))), (6, .int (am_i i))] [] (I, J, R, 138) = am_E (d + 2) 246 72 [(0, .ref 64), (1, .int (am_i B)), (2, .int (am_i k)), (3, .int (am_i (max X (cnS (fun b => decide (b < nb) && p b) f v nb) : Nat))), (4, .int (am_i v))] [] (I, J, R, 138)
  | 0, i, hi => by
    have : i = nb := by omega
    subst this
    have eM := fun d => e_many (d := d) (I := I) (J := J) (nb := i) hm h94
    have cb := cnS_b (p := fun b => decide (b < i) && p b) (f := f) (v := v) i
    generalize cnS (fun b => decide (b < i) && p b) f v i = C at *
    rw [sg_X12_mostAlike_18]
    by_cases q : C ≤ X
    · rw [show max X C = X by omega]
      simp (disch := first | assumption | omega) only [rM hm, ly_csm, ly_cam, ly_cf, ly_kd, ly_ln, ↓Bool.cond_decide, cond_true, cond_false, ↓bI_p, ↓bV_p, ↓bL_p, bIJ_s, bVJ_s, bLJ_s, ↓am_let_s, Nat.blt, Nat.ble, Bool.and_true, Bool.true_and, Bool.and_self, Int.cast_ofNat_Int, am_i_add, am_i_sub, am_i_mul, am_ok_i, am_i_cl, n_lt, n_le, n_eq, n_lt0, n_le0, n_0lt, n_0le, n_eq0, ne_eq, ↓reduceIte, not_true_eq_false, not_false_eq_true, and_true, true_and, and_false, false_and, eq_T, eq_F, lt_T, lt_F, le_T, le_F, qn_T, qn_F, and_F, b01_T, b01_F, e_isIn, Int32.toInt_toInt64, am_i_toInt, am_l_toInt, Int.toNat_natCast, Int.reduceToNat, Int.reduceAdd, Int.reduceSub, Int.reduceMul, Int.reduceNeg, Nat.reduceAdd, Nat.reduceMul, Nat.add_zero, Nat.mul_zero, Nat.zero_add, am_zb0, am_zb1, eM]
    · rw [show max X C = C by omega]
      simp (disch := first | assumption | omega) only [rM hm, ly_csm, ly_cam, ly_cf, ly_kd, ly_ln, ↓Bool.cond_decide, cond_true, cond_false, ↓bI_p, ↓bV_p, ↓bL_p, bIJ_s, bVJ_s, bLJ_s, ↓am_let_s, Nat.blt, Nat.ble, Bool.and_true, Bool.true_and, Bool.and_self, Int.cast_ofNat_Int, am_i_add, am_i_sub, am_i_mul, am_ok_i, am_i_cl, n_lt, n_le, n_eq, n_lt0, n_le0, n_0lt, n_0le, n_eq0, ne_eq, ↓reduceIte, not_true_eq_false, not_false_eq_true, and_true, true_and, and_false, false_and, eq_T, eq_F, lt_T, lt_F, le_T, le_F, qn_T, qn_F, and_F, b01_T, b01_F, e_isIn, Int32.toInt_toInt64, am_i_toInt, am_l_toInt, Int.toNat_natCast, Int.reduceToNat, Int.reduceAdd, Int.reduceSub, Int.reduceMul, Int.reduceNeg, Nat.reduceAdd, Nat.reduceMul, Nat.add_zero, Nat.mul_zero, Nat.zero_add, am_zb0, am_zb1, eM]
  | m + 1, i, hi => by
    have eM := fun d => e_many (d := d) (I := I) (J := J) (nb := nb) hm h94
    have ih := m_ma18 hm h6 hB hk hX hv h94 hp hf m (i + 1) (by omega)
    have ei : ((31 : Int) * (i : Int) + (k : Int)).toNat = 31 * i + k := by omega
    have bt := bit_t (B := B) (b := i) hB (by omega)
    rw [hp i (by omega)] at bt
    obtain ⟨f8, f9⟩ := hf i (by omega)
    have cb := cnS_b (p := fun b => decide (b < nb) && p b) (f := f) (v := v) i
    rw [← ih, cnS_1, sg_X12_mostAlike_18]
    generalize cnS (fun b => decide (b < nb) && p b) f v i = C at *
    by_cases q : i < nb ∧ p i = true
    · rw [if_pos q] at bt
      have qd : (decide (i < nb) && p i) = true := by simp [q.1, q.2]
      by_cases q2 : f i = v
      · rw [if_pos ⟨qd, q2⟩]
        simp (disch := first | assumption | omega) only [rM hm, ly_csm, ly_cam, ly_cf, ly_kd, ly_ln, ↓Bool.cond_decide, cond_true, cond_false, ↓bI_p, ↓bV_p, ↓bL_p, bIJ_s, bVJ_s, bLJ_s, ↓am_let_s, Nat.blt, Nat.ble, Bool.and_true, Bool.true_and, Bool.and_self, Int.cast_ofNat_Int, am_i_add, am_i_sub, am_i_mul, am_ok_i, am_i_cl, n_lt, n_le, n_eq, n_lt0, n_le0, n_0lt, n_0le, n_eq0, ne_eq, ↓reduceIte, not_true_eq_false, not_false_eq_true, and_true, true_and, and_false, false_and, eq_T, eq_F, lt_T, lt_F, le_T, le_F, qn_T, qn_F, and_F, b01_T, b01_F, e_isIn, Int32.toInt_toInt64, am_i_toInt, am_l_toInt, Int.toNat_natCast, Int.reduceToNat, Int.reduceAdd, Int.reduceSub, Int.reduceMul, Int.reduceNeg, Nat.reduceAdd, Nat.reduceMul, Nat.add_zero, Nat.mul_zero, Nat.zero_add, am_zb0, am_zb1, eM, bt, ei, f9, sg_X12_mostAlike_57, am_i_s]
      · rw [if_neg (fun x => q2 x.2), Nat.add_zero]
        simp (disch := first | assumption | omega) only [rM hm, ly_csm, ly_cam, ly_cf, ly_kd, ly_ln, ↓Bool.cond_decide, cond_true, cond_false, ↓bI_p, ↓bV_p, ↓bL_p, bIJ_s, bVJ_s, bLJ_s, ↓am_let_s, Nat.blt, Nat.ble, Bool.and_true, Bool.true_and, Bool.and_self, Int.cast_ofNat_Int, am_i_add, am_i_sub, am_i_mul, am_ok_i, am_i_cl, n_lt, n_le, n_eq, n_lt0, n_le0, n_0lt, n_0le, n_eq0, ne_eq, ↓reduceIte, not_true_eq_false, not_false_eq_true, and_true, true_and, and_false, false_and, eq_T, eq_F, lt_T, lt_F, le_T, le_F, qn_T, qn_F, and_F, b01_T, b01_F, e_isIn, Int32.toInt_toInt64, am_i_toInt, am_l_toInt, Int.toNat_natCast, Int.reduceToNat, Int.reduceAdd, Int.reduceSub, Int.reduceMul, Int.reduceNeg, Nat.reduceAdd, Nat.reduceMul, Nat.add_zero, Nat.mul_zero, Nat.zero_add, am_zb0, am_zb1, eM, bt, ei, f9, sg_X12_mostAlike_57, am_i_s]
    · rw [if_neg q] at bt
      have qd : ¬ (decide (i < nb) && p i) = true := fun e => q (by simpa using e)
      have b0 : am_i ((0 : Nat) : Int) = am_i 0 := rfl
      rw [if_neg (fun x => qd x.1), Nat.add_zero]
      simp (disch := first | assumption | omega) only [rM hm, ly_csm, ly_cam, ly_cf, ly_kd, ly_ln, ↓Bool.cond_decide, cond_true, cond_false, ↓bI_p, ↓bV_p, ↓bL_p, bIJ_s, bVJ_s, bLJ_s, ↓am_let_s, Nat.blt, Nat.ble, Bool.and_true, Bool.true_and, Bool.and_self, Int.cast_ofNat_Int, am_i_add, am_i_sub, am_i_mul, am_ok_i, am_i_cl, n_lt, n_le, n_eq, n_lt0, n_le0, n_0lt, n_0le, n_eq0, ne_eq, ↓reduceIte, not_true_eq_false, not_false_eq_true, and_true, true_and, and_false, false_and, eq_T, eq_F, lt_T, lt_F, le_T, le_F, qn_T, qn_F, and_F, b01_T, b01_F, e_isIn, Int32.toInt_toInt64, am_i_toInt, am_l_toInt, Int.toNat_natCast, Int.reduceToNat, Int.reduceAdd, Int.reduceSub, Int.reduceMul, Int.reduceNeg, Nat.reduceAdd, Nat.reduceMul, Nat.add_zero, Nat.mul_zero, Nat.zero_add, am_zb0, am_zb1, eM, bt, b0, sg_X12_mostAlike_57, am_i_s]
theorem mvS_b {p : Nat → Bool} {f : Nat → Nat} {n : Nat} : ∀ N, mvS p f n N ≤ n
  | 0 => Nat.zero_le _
  | N + 1 => by
    have h1 := mvS_b (p := p) (f := f) (n := n) N
    have h2 := cnS_b (p := p) (f := f) (v := N) n
    show max (mvS p f n N) (cnS p f N n) ≤ _
    omega
theorem m_ma5 {I : tI} {B k : Nat} {p : Nat → Bool} {f : Nat → Nat} (hm : st_Rm R) (h6 : nb ≤ 6) (hB : B < 64) (hk : k < 31) (h94 : I 94 3 = am_i nb) (hp : ∀ b, b < 6 → B / 2 ^ b % 2 = if b < nb ∧ p b = true then 1 else 0) (hf : ∀ b, b < nb → f b ≤ 8 ∧ I 109 (31 * b + k) = am_i (f b)) : ∀ (m v : Nat), v + m = 9 → am_E (d + 2) 246 5 [(0, .ref 64), (1, .int (am_i B)), (2, .int (am_i k)), (3, .int (am_i (mvS (fun b => decide (b < nb) && p b) f nb v))), (4, .int (am_i v))] [] (I, J, R, 138) = some (some (.int (am_i (mxS (fun b => decide (b < nb) && p b) f nb))), (I, J, R, 138))
  | 0, v, hv => by
    have : v = 9 := by omega
    subst this
    rw [mv_mx (fun b hb => (hf b hb).1), sg_X12_mostAlike_5]
    simp (disch := first | assumption | omega) only [am_i_add, am_i_sub, am_i_mul, am_ok_i, am_i_cl, n_lt, n_le, n_eq, n_lt0, n_le0, n_0lt, n_0le, n_eq0, ne_eq, ↓reduceIte, not_true_eq_false, not_false_eq_true, and_true, true_and, and_false, false_and, eq_T, eq_F, lt_T, lt_F, le_T, le_F, qn_T, qn_F, and_F, b01_T, b01_F, e_isIn, Int32.toInt_toInt64, am_i_toInt, am_l_toInt, Int.toNat_natCast, Int.reduceToNat, Int.reduceAdd, Int.reduceSub, Int.reduceMul, Int.reduceNeg, Nat.reduceAdd, Nat.reduceMul, Nat.add_zero, Nat.mul_zero, Nat.zero_add, am_zb0, am_zb1, ↓Bool.cond_decide, cond_true, cond_false, ↓am_let_s, ↓bI_p, bIJ_s, ↓bV_p, bVJ_s, ↓bL_p, bLJ_s, ly_cf, Bool.and_self, Bool.and_true]
  | m + 1, v, hv => by
    have ih := m_ma5 hm h6 hB hk h94 hp hf m (v + 1) (by omega)
    have mb := mvS_b (p := fun b => decide (b < nb) && p b) (f := f) (n := nb) v
    have e18 : am_E (d + 2) 246 18 [(0, .ref 64), (1, .int (am_i B)), (2, .int (am_i k)), (3, .int (am_i (mvS (fun b => decide (b < nb) && p b) f nb v))), (4, .int (am_i v)), (5, .int (am_i 0)), (6, .int (am_i 0))] [] (I, J, R, 138) = _ := m_ma18 (d := d) (J := J) (v := v) (X := mvS (fun b => decide (b < nb) && p b) f nb v) hm h6 hB hk (by omega) (by omega) h94 hp hf nb 0 (by omega)
    rw [← ih, sg_X12_mostAlike_5]
    simp (disch := first | assumption | omega) only [am_i_add, am_i_sub, am_i_mul, am_ok_i, am_i_cl, n_lt, n_le, n_eq, n_lt0, n_le0, n_0lt, n_0le, n_eq0, ne_eq, ↓reduceIte, not_true_eq_false, not_false_eq_true, and_true, true_and, and_false, false_and, eq_T, eq_F, lt_T, lt_F, le_T, le_F, qn_T, qn_F, and_F, b01_T, b01_F, e_isIn, Int32.toInt_toInt64, am_i_toInt, am_l_toInt, Int.toNat_natCast, Int.reduceToNat, Int.reduceAdd, Int.reduceSub, Int.reduceMul, Int.reduceNeg, Nat.reduceAdd, Nat.reduceMul, Nat.add_zero, Nat.mul_zero, Nat.zero_add, am_zb0, am_zb1, ↓Bool.cond_decide, cond_true, cond_false, ↓am_let_s, ↓bI_p, bIJ_s, ↓bV_p, bVJ_s, ↓bL_p, bLJ_s, ly_cf, Bool.and_self, Bool.and_true, e18, sg_X12_mostAlike_72, am_i_s]
    rfl
theorem tlS_b {mo : Nat → Nat} : ∀ (m k : Nat) (b : Int) (f : Nat), 0 ≤ b → b < k → 0 ≤ (tlS mo m k b f).1 ∧ (tlS mo m k b f).1 < k + m
  | 0, k, b, f, h, h2 => ⟨h, by show b < _; omega⟩
  | m + 1, k, b, f, h, h2 => by
    have e : tlS mo (m + 1) k b f = if mo k < f then tlS mo m (k + 1) k (mo k) else tlS mo m (k + 1) b f := rfl
    rw [e]
    split
    · have := tlS_b (mo := mo) m (k + 1) k (mo k) (by omega) (by omega)
      omega
    · have := tlS_b (mo := mo) m (k + 1) b f h (by omega)
      omega
theorem m_t32 {I : tI} {B H : Nat} {w : Int} {mo : Nat → Nat} (hm : st_Rm R) (hH : H ≤ 31) (hB0 : B ≠ 0) (hB : B < 64) (h66 : I 64 66 = am_i H) (hmo : ∀ k, k < H → mo k ≤ 6) (hml : ∀ k, k < H → am_E (d + 2) 246 0 [(0, .ref 64), (1, .int (am_i B)), (2, .int (am_i k))] [] (I, J, R, 138) = some (some (.int (am_i (mo k))), (I, J, R, 138))) : ∀ (m k : Nat) (b : Int) (f : Nat), k + m = H → f ≤ 7 → 0 ≤ b → b < 31 → am_E (d + 3) 247 32 [(0, .ref 64), (1, .int (am_i w)), (2, .int (am_i B)), (3, .int (am_i b)), (4, .int (am_i f)), (5, .int (am_i k))] [] (I, J, R, 138) = am_E (d + 3) 247 82 [(1, .int (am_i w)), (3, .int (am_i (tlS mo m k b f).1)), (4, .int (am_i (tlS mo m k b f).2))] [] (I, J, R, 138)
  | 0, k, b, f, hk, hf, hb, hb2 => by
    rw [sg_X12_tells_32]
    simp (disch := first | assumption | omega) only [rM hm, ly_csm, ly_cam, ly_cf, ly_kd, ly_ln, ↓Bool.cond_decide, cond_true, cond_false, ↓bI_p, ↓bV_p, ↓bL_p, bIJ_s, bVJ_s, bLJ_s, ↓am_let_s, Nat.blt, Nat.ble, Bool.and_true, Bool.true_and, Bool.and_self, Int.cast_ofNat_Int, am_i_add, am_i_sub, am_i_mul, am_ok_i, am_i_cl, n_lt, n_le, n_eq, n_lt0, n_le0, n_0lt, n_0le, n_eq0, ne_eq, ↓reduceIte, not_true_eq_false, not_false_eq_true, and_true, true_and, and_false, false_and, eq_T, eq_F, lt_T, lt_F, le_T, le_F, qn_T, qn_F, and_F, b01_T, b01_F, e_isIn, Int32.toInt_toInt64, am_i_toInt, am_l_toInt, Int.toNat_natCast, Int.reduceToNat, Int.reduceAdd, Int.reduceSub, Int.reduceMul, Int.reduceNeg, Nat.reduceAdd, Nat.reduceMul, Nat.add_zero, Nat.mul_zero, Nat.zero_add, am_zb0, am_zb1, h66]
    rfl
  | m + 1, k, b, f, hk, hf, hb, hb2 => by
    have mk := hmo k (by omega)
    have ml := hml k (by omega)
    have e : tlS mo (m + 1) k b f = if mo k < f then tlS mo m (k + 1) k (mo k) else tlS mo m (k + 1) b f := rfl
    rw [e, sg_X12_tells_32]
    by_cases q : mo k < f
    · have ih := m_t32 (w := w) hm hH hB0 hB h66 hmo hml m (k + 1) k (mo k) (by omega) (by omega) (by omega) (by omega)
      rw [if_pos q, ← ih]
      simp (disch := first | assumption | omega) only [rM hm, ly_csm, ly_cam, ly_cf, ly_kd, ly_ln, ↓Bool.cond_decide, cond_true, cond_false, ↓bI_p, ↓bV_p, ↓bL_p, bIJ_s, bVJ_s, bLJ_s, ↓am_let_s, Nat.blt, Nat.ble, Bool.and_true, Bool.true_and, Bool.and_self, Int.cast_ofNat_Int, am_i_add, am_i_sub, am_i_mul, am_ok_i, am_i_cl, n_lt, n_le, n_eq, n_lt0, n_le0, n_0lt, n_0le, n_eq0, ne_eq, ↓reduceIte, not_true_eq_false, not_false_eq_true, and_true, true_and, and_false, false_and, eq_T, eq_F, lt_T, lt_F, le_T, le_F, qn_T, qn_F, and_F, b01_T, b01_F, e_isIn, Int32.toInt_toInt64, am_i_toInt, am_l_toInt, Int.toNat_natCast, Int.reduceToNat, Int.reduceAdd, Int.reduceSub, Int.reduceMul, Int.reduceNeg, Nat.reduceAdd, Nat.reduceMul, Nat.add_zero, Nat.mul_zero, Nat.zero_add, am_zb0, am_zb1, h66, ml, sg_X12_tells_69, sg_X12_tells_76, am_i_s]
    · have ih := m_t32 (w := w) hm hH hB0 hB h66 hmo hml m (k + 1) b f (by omega) hf hb hb2
      rw [if_neg q, ← ih]
      simp (disch := first | assumption | omega) only [rM hm, ly_csm, ly_cam, ly_cf, ly_kd, ly_ln, ↓Bool.cond_decide, cond_true, cond_false, ↓bI_p, ↓bV_p, ↓bL_p, bIJ_s, bVJ_s, bLJ_s, ↓am_let_s, Nat.blt, Nat.ble, Bool.and_true, Bool.true_and, Bool.and_self, Int.cast_ofNat_Int, am_i_add, am_i_sub, am_i_mul, am_ok_i, am_i_cl, n_lt, n_le, n_eq, n_lt0, n_le0, n_0lt, n_0le, n_eq0, ne_eq, ↓reduceIte, not_true_eq_false, not_false_eq_true, and_true, true_and, and_false, false_and, eq_T, eq_F, lt_T, lt_F, le_T, le_F, qn_T, qn_F, and_F, b01_T, b01_F, e_isIn, Int32.toInt_toInt64, am_i_toInt, am_l_toInt, Int.toNat_natCast, Int.reduceToNat, Int.reduceAdd, Int.reduceSub, Int.reduceMul, Int.reduceNeg, Nat.reduceAdd, Nat.reduceMul, Nat.add_zero, Nat.mul_zero, Nat.zero_add, am_zb0, am_zb1, h66, ml, sg_X12_tells_76, am_i_s]
end TELLS
