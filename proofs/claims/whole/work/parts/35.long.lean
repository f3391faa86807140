/-! ===== long numbers ===== -/
theorem am_l_add (a b : Int) : am_l a + am_l b = am_l (a + b) := (Int64.ofInt_add a b).symm
theorem am_l_sub (a b : Int) : am_l a - am_l b = am_l (a - b) := (Int64.ofInt_sub a b).symm
theorem am_l_mul (a b : Int) : am_l a * am_l b = am_l (a * b) := (Int64.ofInt_mul a b).symm
theorem l_toi (a : Int) : (am_l a).toInt32 = am_i a := Int64.toInt32_ofInt
theorem i_min : Int32.minValue.toInt = -2147483648 := by decide
theorem i_max : Int32.maxValue.toInt = 2147483647 := by decide
theorem l_min : Int64.minValue.toInt = -9223372036854775808 := by decide
theorem l_max : Int64.maxValue.toInt = 9223372036854775807 := by decide
section LNG
variable {a b : Int}
theorem i_tol (ha : -2147483648 ≤ a) (ha2 : a < 2147483648) : (am_i a).toInt64 = am_l a := Int32.toInt64_ofInt (by rw [i_min]; exact ha) (by rw [i_max]; omega)
theorem l_div (ha : -9223372036854775808 ≤ a) (ha2 : a < 9223372036854775808) (hb : -9223372036854775808 ≤ b) (hb2 : b < 9223372036854775808) : am_l a / am_l b = am_l (a.tdiv b) := (Int64.ofInt_tdiv (by rw [l_min]; exact ha) (by rw [l_max]; omega) (by rw [l_min]; exact hb) (by rw [l_max]; omega)).symm
theorem i_div (ha : -2147483648 ≤ a) (ha2 : a < 2147483648) (hb : -2147483648 ≤ b) (hb2 : b < 2147483648) : am_i a / am_i b = am_i (a.tdiv b) := (Int32.ofInt_tdiv (by rw [i_min]; exact ha) (by rw [i_max]; omega) (by rw [i_min]; exact hb) (by rw [i_max]; omega)).symm
theorem lq (ha : -9223372036854775808 ≤ a) (ha2 : a < 9223372036854775808) (hb : -9223372036854775808 ≤ b) (hb2 : b < 9223372036854775808) : (am_l a = am_l b) = (a = b) := propext ⟨fun h => by have := congrArg Int64.toInt h; rw [am_l_toInt ha ha2, am_l_toInt hb hb2] at this; exact this, fun h => by rw [h]⟩
theorem lc_lt (ha : -9223372036854775808 ≤ a) (ha2 : a < 9223372036854775808) (hb : -9223372036854775808 ≤ b) (hb2 : b < 9223372036854775808) : (lg_cmp (am_l a) (am_l b) < 0) = (a < b) := propext (by rw [lg_lt, am_l_toInt ha ha2, am_l_toInt hb hb2])
theorem lc_gt (ha : -9223372036854775808 ≤ a) (ha2 : a < 9223372036854775808) (hb : -9223372036854775808 ≤ b) (hb2 : b < 9223372036854775808) : (0 < lg_cmp (am_l a) (am_l b)) = (b < a) := propext (by rw [lg_gt, am_l_toInt ha ha2, am_l_toInt hb hb2])
theorem lc_le (ha : -9223372036854775808 ≤ a) (ha2 : a < 9223372036854775808) (hb : -9223372036854775808 ≤ b) (hb2 : b < 9223372036854775808) : (lg_cmp (am_l a) (am_l b) ≤ 0) = (a ≤ b) := propext (by rw [← Int32.not_lt, lg_gt, am_l_toInt ha ha2, am_l_toInt hb hb2]; omega)
theorem lc_ge (ha : -9223372036854775808 ≤ a) (ha2 : a < 9223372036854775808) (hb : -9223372036854775808 ≤ b) (hb2 : b < 9223372036854775808) : (0 ≤ lg_cmp (am_l a) (am_l b)) = (b ≤ a) := propext (by rw [← Int32.not_lt, lg_lt, am_l_toInt ha ha2, am_l_toInt hb hb2]; omega)
theorem lc_eq (ha : -9223372036854775808 ≤ a) (ha2 : a < 9223372036854775808) (hb : -9223372036854775808 ≤ b) (hb2 : b < 9223372036854775808) : (lg_cmp (am_l a) (am_l b) = 0) = (a = b) := propext (by
  constructor
  · intro h
    have h1 : ¬ lg_cmp (am_l a) (am_l b) < 0 := by rw [h]; decide
    have h2 : ¬ 0 < lg_cmp (am_l a) (am_l b) := by rw [h]; decide
    rw [lc_lt ha ha2 hb hb2] at h1
    rw [lc_gt ha ha2 hb hb2] at h2
    omega
  · intro h
    rw [h]
    exact lp_lg _)
theorem lnz (ha : -9223372036854775808 ≤ a) (ha2 : a < 9223372036854775808) (h : a ≠ 0) : (!(am_l a == 0)) = true := by
  have e : (am_l a = am_l 0) = (a = 0) := lq ha ha2 (by decide) (by decide)
  have : am_l a ≠ 0 := fun q => h (e.mp q)
  simp [this]
theorem inz (ha : -2147483648 ≤ a) (ha2 : a < 2147483648) (h : a ≠ 0) : (!(am_i a == 0)) = true := by
  have : am_i a ≠ 0 := fun q => h ((n_eq0 ha ha2).mp q)
  simp [this]
end LNG
/-! ===== letter ===== -/
def rv27 (r : List Nat) : Nat := r.foldr (fun x a => 27 * a + x) 0
theorem pk27_rv (l : List Nat) : pk27 l = rv27 l.reverse := by
  unfold pk27 rv27
  rw [List.foldr_reverse]
theorem rv27_c (x : Nat) (r : List Nat) : rv27 (x :: r) = 27 * rv27 r + x := rfl
theorem rv27_lt : ∀ r : List Nat, (∀ x ∈ r, 1 ≤ x ∧ x ≤ 26) → rv27 r < 27 ^ r.length
  | [], _ => by decide
  | x :: r, h => by
    have h1 := rv27_lt r (fun y hy => h y (List.mem_cons_of_mem _ hy))
    have h2 := h x List.mem_cons_self
    rw [rv27_c, List.length_cons, Nat.pow_succ]
    omega
theorem rv27_b {r : List Nat} (h : ∀ x ∈ r, 1 ≤ x ∧ x ≤ 26) (hl : r.length ≤ 6) : rv27 r < 387420489 :=
  Nat.lt_of_lt_of_le (rv27_lt r h) (Nat.le_trans (Nat.pow_le_pow_right (by decide) hl) (by decide))
theorem td27 (a x : Nat) (h : x < 27) : ((27 * a + x : Nat) : Int).tdiv 27 = (a : Int) := by
  rw [Int.tdiv_eq_ediv_of_nonneg (by omega)]
  omega
theorem pk5_at {l : List Nat} {k : Nat} (h1 : l.length ≤ 6) (h2 : ∀ x ∈ l, 1 ≤ x ∧ x ≤ 26) (hk : k < 6) : pk5 l < 2147483648 ∧ pk5 l / 2 ^ (5 * (5 - k)) % 32 = l.getD k 0 := by
  have hk' : k = 0 ∨ k = 1 ∨ k = 2 ∨ k = 3 ∨ k = 4 ∨ k = 5 := by omega
  match l, h1, h2 with
  | [], _, _ => exact ⟨by decide, by rcases hk' with rfl | rfl | rfl | rfl | rfl | rfl <;> rfl⟩
  | [a], _, h2 =>
    simp at h2
    simp [pk5]
    rcases hk' with rfl | rfl | rfl | rfl | rfl | rfl <;> simp <;> omega
  | [a, b], _, h2 =>
    simp at h2
    simp [pk5]
    rcases hk' with rfl | rfl | rfl | rfl | rfl | rfl <;> simp <;> omega
  | [a, b, c], _, h2 =>
    simp at h2
    simp [pk5]
    rcases hk' with rfl | rfl | rfl | rfl | rfl | rfl <;> simp <;> omega
  | [a, b, c, d], _, h2 =>
    simp at h2
    simp [pk5]
    rcases hk' with rfl | rfl | rfl | rfl | rfl | rfl <;> simp <;> omega
  | [a, b, c, d, e], _, h2 =>
    simp at h2
    simp [pk5]
    rcases hk' with rfl | rfl | rfl | rfl | rfl | rfl <;> simp <;> omega
  | [a, b, c, d, e, f], _, h2 =>
    simp at h2
    simp [pk5]
    rcases hk' with rfl | rfl | rfl | rfl | rfl | rfl <;> simp <;> omega
  | a :: b :: c :: d :: e :: f :: g :: r, h1, _ => simp at h1
theorem tGD (r : List Nat) (y k : Nat) (q : k < r.length) : (r.reverse ++ [y]).getD k 0 = r.reverse.getD k 0 := by
  rw [List.getD_eq_getElem?_getD, List.getD_eq_getElem?_getD, List.getElem?_append_left (by rw [List.length_reverse]; exact q)]
theorem tGE (r : List Nat) (y : Nat) : (r.reverse ++ [y]).getD r.length 0 = y := by
  rw [List.getD_eq_getElem?_getD, List.getElem?_append_right (by rw [List.length_reverse]; exact Nat.le_refl _), List.length_reverse]
  simp
section LTR
variable {d : Nat} {M : am_Mem}
theorem l_len (x : Int64) (k : Int32) : ∀ (r : List Nat) (i : Nat), (∀ y ∈ r, 1 ≤ y ∧ y ≤ 26) → r.length ≤ 6 → am_E (d + 1) 219 67 [(3, .int k), (4, .long x), (6, .int (am_i i)), (7, .long (am_l (rv27 r : Nat)))] [] M = am_E (d + 1) 219 67 [(3, .int k), (4, .long x), (6, .int (am_i ((i + r.length : Nat) : Int))), (7, .long (am_l ((0 : Nat) : Int)))] [] M
  | [], i, _, _ => rfl
  | y :: r, i, h, hl => by
    have h1 : ∀ y ∈ r, 1 ≤ y ∧ y ≤ 26 := fun z hz => h z (List.mem_cons_of_mem _ hz)
    have h2 := h y List.mem_cons_self
    have hl' : r.length + 1 ≤ 6 := hl
    have hb := rv27_b h1 (by omega)
    have ih := l_len x k r (i + 1) h1 (by omega)
    rw [show i + (y :: r).length = i + 1 + r.length by rw [List.length_cons]; omega, ← ih, sg_X12_letter_67, rv27_c]
    have e := td27 (rv27 r) y (by omega)
    simp (disch := first | assumption | omega) only [am_i_add, am_i_sub, am_i_mul, am_ok_i, am_i_cl, n_lt, n_le, n_eq, n_lt0, n_le0, n_0lt, n_0le, n_eq0, ne_eq, ↓reduceIte, not_true_eq_false, not_false_eq_true, and_true, true_and, and_false, false_and, eq_T, eq_F, lt_T, lt_F, le_T, le_F, qn_T, qn_F, and_F, b01_T, b01_F, e_isIn, Int32.toInt_toInt64, am_i_toInt, am_l_toInt, Int.toNat_natCast, Int.reduceToNat, Int.reduceAdd, Int.reduceSub, Int.reduceMul, Int.reduceNeg, Nat.reduceAdd, Nat.reduceMul, Nat.add_zero, Nat.mul_zero, Nat.zero_add, am_zb0, am_zb1, ↓Bool.cond_decide, cond_true, ↓am_let_s, lc_le, l_div, lnz, am_i_s, e]
theorem l_at (k : Nat) : ∀ (r : List Nat), (∀ y ∈ r, 1 ≤ y ∧ y ≤ 26) → r.length ≤ 6 → k < r.length → am_E (d + 1) 219 102 [(3, .int (am_i k)), (4, .long (am_l (rv27 r : Nat))), (7, .int (am_i ((r.length - 1 : Nat) : Int)))] [] M = some (some (.int (am_i (r.reverse.getD k 0 : Nat))), M)
  | [], _, _, hk => absurd hk (Nat.not_lt_zero _)
  | y :: r, h, hl, hk => by
    have h1 : ∀ y ∈ r, 1 ≤ y ∧ y ≤ 26 := fun z hz => h z (List.mem_cons_of_mem _ hz)
    have h2 := h y List.mem_cons_self
    have hl' : r.length + 1 ≤ 6 := hl
    have hk' : k < r.length + 1 := hk
    have hb := rv27_b h1 (by omega)
    have e := td27 (rv27 r) y (by omega)
    rw [show (y :: r).length - 1 = r.length from rfl, sg_X12_letter_102, rv27_c, List.reverse_cons]
    by_cases q : k < r.length
    · have ih := l_at k r h1 (by omega) q
      have e2 : am_i ((r.length : Int) + -1) = am_i ((r.length - 1 : Nat) : Int) := by congr 1; omega
      rw [tGD r y k q, ← ih]
      simp (disch := first | assumption | omega) only [am_i_add, am_i_sub, am_i_mul, am_ok_i, am_i_cl, n_lt, n_le, n_eq, n_lt0, n_le0, n_0lt, n_0le, n_eq0, ne_eq, ↓reduceIte, not_true_eq_false, not_false_eq_true, and_true, true_and, and_false, false_and, eq_T, eq_F, lt_T, lt_F, le_T, le_F, qn_T, qn_F, and_F, b01_T, b01_F, e_isIn, Int32.toInt_toInt64, am_i_toInt, am_l_toInt, Int.toNat_natCast, Int.reduceToNat, Int.reduceAdd, Int.reduceSub, Int.reduceMul, Int.reduceNeg, Nat.reduceAdd, Nat.reduceMul, Nat.add_zero, Nat.mul_zero, Nat.zero_add, am_zb0, am_zb1, ↓Bool.cond_decide, cond_true, ↓am_let_s, l_div, lnz, e, e2]
    · have q' : k = r.length := by omega
      have e3 : (r.reverse ++ [y]).getD k 0 = y := by
        rw [q']
        exact tGE r y
      rw [e3]
      have e4 : am_l ((27 * rv27 r + y : Nat) : Int) - am_l (rv27 r : Int) * am_l 27 = am_l (y : Int) := by
        rw [am_l_mul, am_l_sub]
        congr 1
        omega
      simp (disch := first | assumption | omega) only [am_i_add, am_i_sub, am_i_mul, am_ok_i, am_i_cl, n_lt, n_le, n_eq, n_lt0, n_le0, n_0lt, n_0le, n_eq0, ne_eq, ↓reduceIte, not_true_eq_false, not_false_eq_true, and_true, true_and, and_false, false_and, eq_T, eq_F, lt_T, lt_F, le_T, le_F, qn_T, qn_F, and_F, b01_T, b01_F, e_isIn, Int32.toInt_toInt64, am_i_toInt, am_l_toInt, Int.toNat_natCast, Int.reduceToNat, Int.reduceAdd, Int.reduceSub, Int.reduceMul, Int.reduceNeg, Nat.reduceAdd, Nat.reduceMul, Nat.add_zero, Nat.mul_zero, Nat.zero_add, am_zb0, am_zb1, ↓Bool.cond_decide, cond_true, ↓am_let_s, l_div, lnz, e, e4, l_toi]
theorem e_letterOf {l : List Nat} {k : Nat} (h1 : l.length ≤ 6) (h2 : ∀ x ∈ l, 1 ≤ x ∧ x ≤ 26) (hk : k < 6) : am_E (d + 1) 143 0 [(0, .int (am_i (pk5 l : Nat))), (1, .int (am_i k))] [] M = some (some (.int (am_i (l.getD k 0 : Nat))), M) := by
  obtain ⟨e1, e2⟩ := pk5_at h1 h2 hk
  have e3 : am_i 5 * (am_i 5 - am_i k) = am_i ((5 * (5 - k) : Nat) : Int) := by
    rw [am_i_sub, am_i_mul]
    congr 1
    omega
  have e4 : am_i 31 = am_i ((2 ^ 5 - 1 : Nat) : Int) := rfl
  rw [sg_X11_letterOf_0, e3, s_31 (by omega), s_shr e1 (by omega), e4, s_2, show (2 : Nat) ^ 5 = 32 from rfl, e2]
theorem l_let {l : List Nat} {k : Nat} (h0 : 1 ≤ l.length) (h1 : l.length ≤ 6) (h2 : ∀ x ∈ l, 1 ≤ x ∧ x ≤ 26) (hk : k < 6) : am_E (d + 1) 219 67 [(3, .int (am_i k)), (4, .long (am_l (pk27 l : Nat))), (6, .int (am_i 0)), (7, .long (am_l (pk27 l : Nat)))] [] M = some (some (.int (am_i (l.getD k 0 : Nat))), M) := by
  have q1 : ∀ x ∈ l.reverse, 1 ≤ x ∧ x ≤ 26 := fun x hx => h2 x (List.mem_reverse.mp hx)
  have q2 : l.reverse.length = l.length := List.length_reverse
  have e := l_len (d := d) (M := M) (am_l (rv27 l.reverse : Nat)) (am_i k) l.reverse 0 q1 (by omega)
  rw [pk27_rv]
  refine e.trans ?_
  rw [Nat.zero_add, q2, sg_X12_letter_67]
  by_cases hkl : k < l.length
  · have e2 := l_at (d := d) (M := M) k l.reverse q1 (by omega) (by omega)
    rw [q2, List.reverse_reverse] at e2
    have e3 : am_i ((l.length : Int) - 1) = am_i ((l.length - 1 : Nat) : Int) := by congr 1; omega
    simp (disch := first | assumption | omega) only [am_i_add, am_i_sub, am_i_mul, am_ok_i, am_i_cl, n_lt, n_le, n_eq, n_lt0, n_le0, n_0lt, n_0le, n_eq0, ne_eq, ↓reduceIte, not_true_eq_false, not_false_eq_true, and_true, true_and, and_false, false_and, eq_T, eq_F, lt_T, lt_F, le_T, le_F, qn_T, qn_F, and_F, b01_T, b01_F, e_isIn, Int32.toInt_toInt64, am_i_toInt, am_l_toInt, Int.toNat_natCast, Int.reduceToNat, Int.reduceAdd, Int.reduceSub, Int.reduceMul, Int.reduceNeg, Nat.reduceAdd, Nat.reduceMul, Nat.add_zero, Nat.mul_zero, Nat.zero_add, am_zb0, am_zb1, ↓Bool.cond_decide, cond_true, ↓am_let_s, lc_le, e3, e2, Int.natCast_zero, Int.cast_ofNat_Int]
  · have e4 : l.getD k 0 = 0 := by
      rw [List.getD_eq_getElem?_getD, List.getElem?_eq_none (by omega)]
      rfl
    simp (disch := first | assumption | omega) only [am_i_add, am_i_sub, am_i_mul, am_ok_i, am_i_cl, n_lt, n_le, n_eq, n_lt0, n_le0, n_0lt, n_0le, n_eq0, ne_eq, ↓reduceIte, not_true_eq_false, not_false_eq_true, and_true, true_and, and_false, false_and, eq_T, eq_F, lt_T, lt_F, le_T, le_F, qn_T, qn_F, and_F, b01_T, b01_F, e_isIn, Int32.toInt_toInt64, am_i_toInt, am_l_toInt, Int.toNat_natCast, Int.reduceToNat, Int.reduceAdd, Int.reduceSub, Int.reduceMul, Int.reduceNeg, Nat.reduceAdd, Nat.reduceMul, Nat.add_zero, Nat.mul_zero, Nat.zero_add, am_zb0, am_zb1, ↓Bool.cond_decide, cond_true, ↓am_let_s, lc_le, e4, Int.natCast_zero, Int.cast_ofNat_Int]
end LTR
section PLT
variable {L : Nat} {xs : Nat → Int32}
theorem p_letter (d : Nat) (a1 a2 a3 : Int32) : pr_I (vV restW L xs) (d + 3) 105 219 [(1, .int a1), (2, .int a2), (3, .int a3)] := by
  intro I J R hV
  have hV0 := hV
  obtain ⟨⟨h1, h2, hx, hm, hmu⟩, ht, hr, hf, hp, hs, hd, hw⟩ := hV
  obtain ⟨c, last, nb, nr, nw, wd, sq, K, nt, wf, fm, h4, hc, hB, hN, hF, ⟨h, s, ⟨hh, e66, g0, hbt⟩, ⟨ek, gk, hkp⟩, hKh⟩, hA, hX⟩ := hw
  obtain ⟨b1, b2, b3, b4, b5, b6, b7, b8, i0, m0, i1, m1, i2, m2, i3, m3, i4, m4, i5, m5, mS, mT, hnt, hky, hwf⟩ := hB
  obtain ⟨z, z1, z2, rfl⟩ := i32_z a1
  obtain ⟨w, w1, w2, rfl⟩ := i32_z a2
  obtain ⟨k, k1, k2, rfl⟩ := i32_z a3
  have xB := fun d => e_xisBoat d (am_i w) nb c I J R hx h4 hc b3 i1
  have xR := fun d => e_xisRider d (am_i w) nr c I J R hx h4 hc b4 i2
  by_cases hk : 0 ≤ k ∧ k < 6
  · obtain ⟨k, rfl⟩ : ∃ n : Nat, k = n := ⟨k.toNat, by omega⟩
    by_cases hz : z = 0
    · subst hz
      by_cases hw : 0 ≤ w ∧ w < nb
      · obtain ⟨l, q1, q2, q3, q4, q5⟩ := hN.1 w.toNat (by omega)
        have e1 : ((16 : Int) + w).toNat = 16 + w.toNat := by omega
        refine ⟨am_i (l.getD k 0 : Nat), I, J, R, I, J, R, ?_, rfl, rfl, ?_, hV0⟩
        · rw [sg_X11_letter_0]
          simp (disch := first | assumption | omega) only [rX hx, ly_csx, ly_cax, ly_cf, ly_kd, ly_ln, ↓Bool.cond_decide, cond_true, cond_false, ↓bI_p, ↓bV_p, ↓bL_p, bIJ_s, bVJ_s, bLJ_s, ↓am_let_s, Nat.blt, Nat.ble, Bool.and_true, Bool.true_and, Bool.and_self, Int.cast_ofNat_Int, am_i_add, am_i_sub, am_i_mul, am_ok_i, am_i_cl, n_lt, n_le, n_eq, n_lt0, n_le0, n_0lt, n_0le, n_eq0, ne_eq, ↓reduceIte, not_true_eq_false, not_false_eq_true, and_true, true_and, and_false, false_and, eq_T, eq_F, lt_T, lt_F, le_T, le_F, qn_T, qn_F, and_F, b01_T, b01_F, e_isIn, Int32.toInt_toInt64, am_i_toInt, am_l_toInt, Int.toNat_natCast, Int.reduceToNat, Int.reduceAdd, Int.reduceSub, Int.reduceMul, Int.reduceNeg, Nat.reduceAdd, Nat.reduceMul, Nat.add_zero, Nat.mul_zero, Nat.zero_add, am_zb0, am_zb1, h4, rC hx hc, xB, b01_t, q4, e_letterOf q2 q3]
        · rw [sg_X12_letter_0]
          simp (disch := first | assumption | omega) only [rM hm, ly_csm, ly_cam, ly_cf, ly_kd, ly_ln, ↓Bool.cond_decide, cond_true, cond_false, ↓bI_p, ↓bV_p, ↓bL_p, bIJ_s, bVJ_s, bLJ_s, ↓am_let_s, Nat.blt, Nat.ble, Bool.and_true, Bool.true_and, Bool.and_self, Int.cast_ofNat_Int, am_i_add, am_i_sub, am_i_mul, am_ok_i, am_i_cl, n_lt, n_le, n_eq, n_lt0, n_le0, n_0lt, n_0le, n_eq0, ne_eq, ↓reduceIte, not_true_eq_false, not_false_eq_true, and_true, true_and, and_false, false_and, eq_T, eq_F, lt_T, lt_F, le_T, le_F, qn_T, qn_F, and_F, b01_T, b01_F, e_isIn, Int32.toInt_toInt64, am_i_toInt, am_l_toInt, Int.toNat_natCast, Int.reduceToNat, Int.reduceAdd, Int.reduceSub, Int.reduceMul, Int.reduceNeg, Nat.reduceAdd, Nat.reduceMul, Nat.add_zero, Nat.mul_zero, Nat.zero_add, am_zb0, am_zb1, m1, e1, q5, l_let q1 q2 q3]
      · refine ⟨am_i (-1), I, J, R, I, J, R, ?_, rfl, rfl, ?_, hV0⟩
        · rw [sg_X11_letter_0]
          simp (disch := first | assumption | omega) only [rX hx, ly_csx, ly_cax, ly_cf, ly_kd, ly_ln, ↓Bool.cond_decide, cond_true, cond_false, ↓bI_p, ↓bV_p, ↓bL_p, bIJ_s, bVJ_s, bLJ_s, ↓am_let_s, Nat.blt, Nat.ble, Bool.and_true, Bool.true_and, Bool.and_self, Int.cast_ofNat_Int, am_i_add, am_i_sub, am_i_mul, am_ok_i, am_i_cl, n_lt, n_le, n_eq, n_lt0, n_le0, n_0lt, n_0le, n_eq0, ne_eq, ↓reduceIte, not_true_eq_false, not_false_eq_true, and_true, true_and, and_false, false_and, eq_T, eq_F, lt_T, lt_F, le_T, le_F, qn_T, qn_F, and_F, b01_T, b01_F, e_isIn, Int32.toInt_toInt64, am_i_toInt, am_l_toInt, Int.toNat_natCast, Int.reduceToNat, Int.reduceAdd, Int.reduceSub, Int.reduceMul, Int.reduceNeg, Nat.reduceAdd, Nat.reduceMul, Nat.add_zero, Nat.mul_zero, Nat.zero_add, am_zb0, am_zb1, h4, rC hx hc, xB, b01_f, sg_X11_letter_38, sg_X11_letter_65]
        · rw [sg_X12_letter_0]
          simp (disch := first | assumption | omega) only [rM hm, ly_csm, ly_cam, ly_cf, ly_kd, ly_ln, ↓Bool.cond_decide, cond_true, cond_false, ↓bI_p, ↓bV_p, ↓bL_p, bIJ_s, bVJ_s, bLJ_s, ↓am_let_s, Nat.blt, Nat.ble, Bool.and_true, Bool.true_and, Bool.and_self, Int.cast_ofNat_Int, am_i_add, am_i_sub, am_i_mul, am_ok_i, am_i_cl, n_lt, n_le, n_eq, n_lt0, n_le0, n_0lt, n_0le, n_eq0, ne_eq, ↓reduceIte, not_true_eq_false, not_false_eq_true, and_true, true_and, and_false, false_and, eq_T, eq_F, lt_T, lt_F, le_T, le_F, qn_T, qn_F, and_F, b01_T, b01_F, e_isIn, Int32.toInt_toInt64, am_i_toInt, am_l_toInt, Int.toNat_natCast, Int.reduceToNat, Int.reduceAdd, Int.reduceSub, Int.reduceMul, Int.reduceNeg, Nat.reduceAdd, Nat.reduceMul, Nat.add_zero, Nat.mul_zero, Nat.zero_add, am_zb0, am_zb1, m1, sg_X12_letter_42]
    · by_cases hz1 : z = 1
      · subst hz1
        by_cases hw : 0 ≤ w ∧ w < nr
        · obtain ⟨l, q1, q2, q3, q4, q5⟩ := hN.2 w.toNat (by omega)
          have e1 : ((24 : Int) + w).toNat = 24 + w.toNat := by omega
          refine ⟨am_i (l.getD k 0 : Nat), I, J, R, I, J, R, ?_, rfl, rfl, ?_, hV0⟩
          · rw [sg_X11_letter_0]
            simp (disch := first | assumption | omega) only [rX hx, ly_csx, ly_cax, ly_cf, ly_kd, ly_ln, ↓Bool.cond_decide, cond_true, cond_false, ↓bI_p, ↓bV_p, ↓bL_p, bIJ_s, bVJ_s, bLJ_s, ↓am_let_s, Nat.blt, Nat.ble, Bool.and_true, Bool.true_and, Bool.and_self, Int.cast_ofNat_Int, am_i_add, am_i_sub, am_i_mul, am_ok_i, am_i_cl, n_lt, n_le, n_eq, n_lt0, n_le0, n_0lt, n_0le, n_eq0, ne_eq, ↓reduceIte, not_true_eq_false, not_false_eq_true, and_true, true_and, and_false, false_and, eq_T, eq_F, lt_T, lt_F, le_T, le_F, qn_T, qn_F, and_F, b01_T, b01_F, e_isIn, Int32.toInt_toInt64, am_i_toInt, am_l_toInt, Int.toNat_natCast, Int.reduceToNat, Int.reduceAdd, Int.reduceSub, Int.reduceMul, Int.reduceNeg, Nat.reduceAdd, Nat.reduceMul, Nat.add_zero, Nat.mul_zero, Nat.zero_add, am_zb0, am_zb1, h4, rC hx hc, xR, b01_t, q4, sg_X11_letter_38, e_letterOf q2 q3]
          · rw [sg_X12_letter_0]
            simp (disch := first | assumption | omega) only [rM hm, ly_csm, ly_cam, ly_cf, ly_kd, ly_ln, ↓Bool.cond_decide, cond_true, cond_false, ↓bI_p, ↓bV_p, ↓bL_p, bIJ_s, bVJ_s, bLJ_s, ↓am_let_s, Nat.blt, Nat.ble, Bool.and_true, Bool.true_and, Bool.and_self, Int.cast_ofNat_Int, am_i_add, am_i_sub, am_i_mul, am_ok_i, am_i_cl, n_lt, n_le, n_eq, n_lt0, n_le0, n_0lt, n_0le, n_eq0, ne_eq, ↓reduceIte, not_true_eq_false, not_false_eq_true, and_true, true_and, and_false, false_and, eq_T, eq_F, lt_T, lt_F, le_T, le_F, qn_T, qn_F, and_F, b01_T, b01_F, e_isIn, Int32.toInt_toInt64, am_i_toInt, am_l_toInt, Int.toNat_natCast, Int.reduceToNat, Int.reduceAdd, Int.reduceSub, Int.reduceMul, Int.reduceNeg, Nat.reduceAdd, Nat.reduceMul, Nat.add_zero, Nat.mul_zero, Nat.zero_add, am_zb0, am_zb1, m2, e1, q5, l_let q1 q2 q3]
        · refine ⟨am_i (-1), I, J, R, I, J, R, ?_, rfl, rfl, ?_, hV0⟩
          · rw [sg_X11_letter_0]
            simp (disch := first | assumption | omega) only [rX hx, ly_csx, ly_cax, ly_cf, ly_kd, ly_ln, ↓Bool.cond_decide, cond_true, cond_false, ↓bI_p, ↓bV_p, ↓bL_p, bIJ_s, bVJ_s, bLJ_s, ↓am_let_s, Nat.blt, Nat.ble, Bool.and_true, Bool.true_and, Bool.and_self, Int.cast_ofNat_Int, am_i_add, am_i_sub, am_i_mul, am_ok_i, am_i_cl, n_lt, n_le, n_eq, n_lt0, n_le0, n_0lt, n_0le, n_eq0, ne_eq, ↓reduceIte, not_true_eq_false, not_false_eq_true, and_true, true_and, and_false, false_and, eq_T, eq_F, lt_T, lt_F, le_T, le_F, qn_T, qn_F, and_F, b01_T, b01_F, e_isIn, Int32.toInt_toInt64, am_i_toInt, am_l_toInt, Int.toNat_natCast, Int.reduceToNat, Int.reduceAdd, Int.reduceSub, Int.reduceMul, Int.reduceNeg, Nat.reduceAdd, Nat.reduceMul, Nat.add_zero, Nat.mul_zero, Nat.zero_add, am_zb0, am_zb1, h4, rC hx hc, xR, b01_f, sg_X11_letter_38, sg_X11_letter_65]
          · rw [sg_X12_letter_0]
            simp (disch := first | assumption | omega) only [rM hm, ly_csm, ly_cam, ly_cf, ly_kd, ly_ln, ↓Bool.cond_decide, cond_true, cond_false, ↓bI_p, ↓bV_p, ↓bL_p, bIJ_s, bVJ_s, bLJ_s, ↓am_let_s, Nat.blt, Nat.ble, Bool.and_true, Bool.true_and, Bool.and_self, Int.cast_ofNat_Int, am_i_add, am_i_sub, am_i_mul, am_ok_i, am_i_cl, n_lt, n_le, n_eq, n_lt0, n_le0, n_0lt, n_0le, n_eq0, ne_eq, ↓reduceIte, not_true_eq_false, not_false_eq_true, and_true, true_and, and_false, false_and, eq_T, eq_F, lt_T, lt_F, le_T, le_F, qn_T, qn_F, and_F, b01_T, b01_F, e_isIn, Int32.toInt_toInt64, am_i_toInt, am_l_toInt, Int.toNat_natCast, Int.reduceToNat, Int.reduceAdd, Int.reduceSub, Int.reduceMul, Int.reduceNeg, Nat.reduceAdd, Nat.reduceMul, Nat.add_zero, Nat.mul_zero, Nat.zero_add, am_zb0, am_zb1, m2, sg_X12_letter_42]
      · refine ⟨am_i (-1), I, J, R, I, J, R, ?_, rfl, rfl, ?_, hV0⟩
        · rw [sg_X11_letter_0]
          simp (disch := first | assumption | omega) only [rX hx, ly_csx, ly_cax, ly_cf, ly_kd, ly_ln, ↓Bool.cond_decide, cond_true, cond_false, ↓bI_p, ↓bV_p, ↓bL_p, bIJ_s, bVJ_s, bLJ_s, ↓am_let_s, Nat.blt, Nat.ble, Bool.and_true, Bool.true_and, Bool.and_self, Int.cast_ofNat_Int, am_i_add, am_i_sub, am_i_mul, am_ok_i, am_i_cl, n_lt, n_le, n_eq, n_lt0, n_le0, n_0lt, n_0le, n_eq0, ne_eq, ↓reduceIte, not_true_eq_false, not_false_eq_true, and_true, true_and, and_false, false_and, eq_T, eq_F, lt_T, lt_F, le_T, le_F, qn_T, qn_F, and_F, b01_T, b01_F, e_isIn, Int32.toInt_toInt64, am_i_toInt, am_l_toInt, Int.toNat_natCast, Int.reduceToNat, Int.reduceAdd, Int.reduceSub, Int.reduceMul, Int.reduceNeg, Nat.reduceAdd, Nat.reduceMul, Nat.add_zero, Nat.mul_zero, Nat.zero_add, am_zb0, am_zb1, h4, rC hx hc, sg_X11_letter_38, sg_X11_letter_65]
        · rw [sg_X12_letter_0]
          simp (disch := first | assumption | omega) only [rM hm, ly_csm, ly_cam, ly_cf, ly_kd, ly_ln, ↓Bool.cond_decide, cond_true, cond_false, ↓bI_p, ↓bV_p, ↓bL_p, bIJ_s, bVJ_s, bLJ_s, ↓am_let_s, Nat.blt, Nat.ble, Bool.and_true, Bool.true_and, Bool.and_self, Int.cast_ofNat_Int, am_i_add, am_i_sub, am_i_mul, am_ok_i, am_i_cl, n_lt, n_le, n_eq, n_lt0, n_le0, n_0lt, n_0le, n_eq0, ne_eq, ↓reduceIte, not_true_eq_false, not_false_eq_true, and_true, true_and, and_false, false_and, eq_T, eq_F, lt_T, lt_F, le_T, le_F, qn_T, qn_F, and_F, b01_T, b01_F, e_isIn, Int32.toInt_toInt64, am_i_toInt, am_l_toInt, Int.toNat_natCast, Int.reduceToNat, Int.reduceAdd, Int.reduceSub, Int.reduceMul, Int.reduceNeg, Nat.reduceAdd, Nat.reduceMul, Nat.add_zero, Nat.mul_zero, Nat.zero_add, am_zb0, am_zb1, sg_X12_letter_42]
  · refine ⟨am_i (-1), I, J, R, I, J, R, ?_, rfl, rfl, ?_, hV0⟩
    · rw [sg_X11_letter_0]
      by_cases hk2 : k < 0
      · simp (disch := first | assumption | omega) only [rX hx, ly_csx, ly_cax, ly_cf, ly_kd, ly_ln, ↓Bool.cond_decide, cond_true, cond_false, ↓bI_p, ↓bV_p, ↓bL_p, bIJ_s, bVJ_s, bLJ_s, ↓am_let_s, Nat.blt, Nat.ble, Bool.and_true, Bool.true_and, Bool.and_self, Int.cast_ofNat_Int, am_i_add, am_i_sub, am_i_mul, am_ok_i, am_i_cl, n_lt, n_le, n_eq, n_lt0, n_le0, n_0lt, n_0le, n_eq0, ne_eq, ↓reduceIte, not_true_eq_false, not_false_eq_true, and_true, true_and, and_false, false_and, eq_T, eq_F, lt_T, lt_F, le_T, le_F, qn_T, qn_F, and_F, b01_T, b01_F, e_isIn, Int32.toInt_toInt64, am_i_toInt, am_l_toInt, Int.toNat_natCast, Int.reduceToNat, Int.reduceAdd, Int.reduceSub, Int.reduceMul, Int.reduceNeg, Nat.reduceAdd, Nat.reduceMul, Nat.add_zero, Nat.mul_zero, Nat.zero_add, am_zb0, am_zb1, h4, rC hx hc, sg_X11_letter_10]
      · simp (disch := first | assumption | omega) only [rX hx, ly_csx, ly_cax, ly_cf, ly_kd, ly_ln, ↓Bool.cond_decide, cond_true, cond_false, ↓bI_p, ↓bV_p, ↓bL_p, bIJ_s, bVJ_s, bLJ_s, ↓am_let_s, Nat.blt, Nat.ble, Bool.and_true, Bool.true_and, Bool.and_self, Int.cast_ofNat_Int, am_i_add, am_i_sub, am_i_mul, am_ok_i, am_i_cl, n_lt, n_le, n_eq, n_lt0, n_le0, n_0lt, n_0le, n_eq0, ne_eq, ↓reduceIte, not_true_eq_false, not_false_eq_true, and_true, true_and, and_false, false_and, eq_T, eq_F, lt_T, lt_F, le_T, le_F, qn_T, qn_F, and_F, b01_T, b01_F, e_isIn, Int32.toInt_toInt64, am_i_toInt, am_l_toInt, Int.toNat_natCast, Int.reduceToNat, Int.reduceAdd, Int.reduceSub, Int.reduceMul, Int.reduceNeg, Nat.reduceAdd, Nat.reduceMul, Nat.add_zero, Nat.mul_zero, Nat.zero_add, am_zb0, am_zb1, h4, rC hx hc, sg_X11_letter_10]
    · rw [sg_X12_letter_0]
      by_cases hz : 0 ≤ z ∧ z ≤ 1
      · have hz' : z = 0 ∨ z = 1 := by omega
        rcases hz' with rfl | rfl
        · by_cases hw : 0 ≤ w ∧ w < nb
          · simp (disch := first | assumption | omega) only [rM hm, ly_csm, ly_cam, ly_cf, ly_kd, ly_ln, ↓Bool.cond_decide, cond_true, cond_false, ↓bI_p, ↓bV_p, ↓bL_p, bIJ_s, bVJ_s, bLJ_s, ↓am_let_s, Nat.blt, Nat.ble, Bool.and_true, Bool.true_and, Bool.and_self, Int.cast_ofNat_Int, am_i_add, am_i_sub, am_i_mul, am_ok_i, am_i_cl, n_lt, n_le, n_eq, n_lt0, n_le0, n_0lt, n_0le, n_eq0, ne_eq, ↓reduceIte, not_true_eq_false, not_false_eq_true, and_true, true_and, and_false, false_and, eq_T, eq_F, lt_T, lt_F, le_T, le_F, qn_T, qn_F, and_F, b01_T, b01_F, e_isIn, Int32.toInt_toInt64, am_i_toInt, am_l_toInt, Int.toNat_natCast, Int.reduceToNat, Int.reduceAdd, Int.reduceSub, Int.reduceMul, Int.reduceNeg, Nat.reduceAdd, Nat.reduceMul, Nat.add_zero, Nat.mul_zero, Nat.zero_add, am_zb0, am_zb1, m1, sg_X12_letter_42]
          · simp (disch := first | assumption | omega) only [rM hm, ly_csm, ly_cam, ly_cf, ly_kd, ly_ln, ↓Bool.cond_decide, cond_true, cond_false, ↓bI_p, ↓bV_p, ↓bL_p, bIJ_s, bVJ_s, bLJ_s, ↓am_let_s, Nat.blt, Nat.ble, Bool.and_true, Bool.true_and, Bool.and_self, Int.cast_ofNat_Int, am_i_add, am_i_sub, am_i_mul, am_ok_i, am_i_cl, n_lt, n_le, n_eq, n_lt0, n_le0, n_0lt, n_0le, n_eq0, ne_eq, ↓reduceIte, not_true_eq_false, not_false_eq_true, and_true, true_and, and_false, false_and, eq_T, eq_F, lt_T, lt_F, le_T, le_F, qn_T, qn_F, and_F, b01_T, b01_F, e_isIn, Int32.toInt_toInt64, am_i_toInt, am_l_toInt, Int.toNat_natCast, Int.reduceToNat, Int.reduceAdd, Int.reduceSub, Int.reduceMul, Int.reduceNeg, Nat.reduceAdd, Nat.reduceMul, Nat.add_zero, Nat.mul_zero, Nat.zero_add, am_zb0, am_zb1, m1, sg_X12_letter_42]
        · by_cases hw : 0 ≤ w ∧ w < nr
          · simp (disch := first | assumption | omega) only [rM hm, ly_csm, ly_cam, ly_cf, ly_kd, ly_ln, ↓Bool.cond_decide, cond_true, cond_false, ↓bI_p, ↓bV_p, ↓bL_p, bIJ_s, bVJ_s, bLJ_s, ↓am_let_s, Nat.blt, Nat.ble, Bool.and_true, Bool.true_and, Bool.and_self, Int.cast_ofNat_Int, am_i_add, am_i_sub, am_i_mul, am_ok_i, am_i_cl, n_lt, n_le, n_eq, n_lt0, n_le0, n_0lt, n_0le, n_eq0, ne_eq, ↓reduceIte, not_true_eq_false, not_false_eq_true, and_true, true_and, and_false, false_and, eq_T, eq_F, lt_T, lt_F, le_T, le_F, qn_T, qn_F, and_F, b01_T, b01_F, e_isIn, Int32.toInt_toInt64, am_i_toInt, am_l_toInt, Int.toNat_natCast, Int.reduceToNat, Int.reduceAdd, Int.reduceSub, Int.reduceMul, Int.reduceNeg, Nat.reduceAdd, Nat.reduceMul, Nat.add_zero, Nat.mul_zero, Nat.zero_add, am_zb0, am_zb1, m2, sg_X12_letter_42]
          · simp (disch := first | assumption | omega) only [rM hm, ly_csm, ly_cam, ly_cf, ly_kd, ly_ln, ↓Bool.cond_decide, cond_true, cond_false, ↓bI_p, ↓bV_p, ↓bL_p, bIJ_s, bVJ_s, bLJ_s, ↓am_let_s, Nat.blt, Nat.ble, Bool.and_true, Bool.true_and, Bool.and_self, Int.cast_ofNat_Int, am_i_add, am_i_sub, am_i_mul, am_ok_i, am_i_cl, n_lt, n_le, n_eq, n_lt0, n_le0, n_0lt, n_0le, n_eq0, ne_eq, ↓reduceIte, not_true_eq_false, not_false_eq_true, and_true, true_and, and_false, false_and, eq_T, eq_F, lt_T, lt_F, le_T, le_F, qn_T, qn_F, and_F, b01_T, b01_F, e_isIn, Int32.toInt_toInt64, am_i_toInt, am_l_toInt, Int.toNat_natCast, Int.reduceToNat, Int.reduceAdd, Int.reduceSub, Int.reduceMul, Int.reduceNeg, Nat.reduceAdd, Nat.reduceMul, Nat.add_zero, Nat.mul_zero, Nat.zero_add, am_zb0, am_zb1, m2, sg_X12_letter_42]
      · simp (disch := first | assumption | omega) only [rM hm, ly_csm, ly_cam, ly_cf, ly_kd, ly_ln, ↓Bool.cond_decide, cond_true, cond_false, ↓bI_p, ↓bV_p, ↓bL_p, bIJ_s, bVJ_s, bLJ_s, ↓am_let_s, Nat.blt, Nat.ble, Bool.and_true, Bool.true_and, Bool.and_self, Int.cast_ofNat_Int, am_i_add, am_i_sub, am_i_mul, am_ok_i, am_i_cl, n_lt, n_le, n_eq, n_lt0, n_le0, n_0lt, n_0le, n_eq0, ne_eq, ↓reduceIte, not_true_eq_false, not_false_eq_true, and_true, true_and, and_false, false_and, eq_T, eq_F, lt_T, lt_F, le_T, le_F, qn_T, qn_F, and_F, b01_T, b01_F, e_isIn, Int32.toInt_toInt64, am_i_toInt, am_l_toInt, Int.toNat_natCast, Int.reduceToNat, Int.reduceAdd, Int.reduceSub, Int.reduceMul, Int.reduceNeg, Nat.reduceAdd, Nat.reduceMul, Nat.add_zero, Nat.mul_zero, Nat.zero_add, am_zb0, am_zb1, sg_X12_letter_42]
end PLT
