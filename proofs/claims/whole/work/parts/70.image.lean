/-! ===== images ===== -/
def btN (x : bt) : Nat → Nat
  | 0 => x.mi
  | 1 => x.ti
  | 2 => x.ro
  | 3 => x.su
  | 4 => x.pl
  | k + 5 => x.sc k
theorem btN_X {f : Nat → Int32} {o n : Nat} {x : bt} (h : bX f o n x) : ∀ k, k < 5 + n → f (o + k) = am_i (btN x k)
  | 0, _ => h.1
  | 1, _ => h.2.1
  | 2, _ => h.2.2.1
  | 3, _ => h.2.2.2.1
  | 4, _ => h.2.2.2.2.1
  | k + 5, hk => by
    rw [show o + (k + 5) = o + 5 + k by omega]
    exact h.2.2.2.2.2 k (by omega)
theorem btN_b {last n : Nat} {x : bt} (hl : last ≤ 60) (hn : n ≤ 6) (h : bOK last n x) : ∀ k, k < 5 + n → btN x k ≤ 255
  | 0, _ => by have := h.1; show x.mi ≤ 255; omega
  | 1, _ => by have := h.2.1; show x.ti ≤ 255; omega
  | 2, _ => by have := h.2.2.1; show x.ro ≤ 255; omega
  | 3, _ => by have := h.2.2.2.1; show x.su ≤ 255; omega
  | 4, _ => by have := h.2.2.2.2.1; show x.pl ≤ 255; omega
  | k + 5, hk => by have := h.2.2.2.2.2.2 k (by omega); show x.sc k ≤ 255; omega
/-- where each boat's numbers begin -/
def ofS (nt : Nat → Nat) : Nat → Nat
  | 0 => 2
  | b + 1 => ofS nt b + (5 + nt b)
theorem ofS_b {nt : Nat → Nat} {nb : Nat} (h : ∀ b, b < nb → nt b ≤ 6) : ∀ b, b ≤ nb → ofS nt b ≤ 2 + 11 * b
  | 0, _ => Nat.le_refl _
  | b + 1, hb => by
    have := ofS_b h b (by omega)
    have := h b (by omega)
    show ofS nt b + (5 + nt b) ≤ _
    omega
theorem ofS_m {nt : Nat → Nat} {b : Nat} : ∀ i, b < i → ofS nt (b + 1) ≤ ofS nt i
  | 0, h => by omega
  | i + 1, h => by
    by_cases e : b = i
    · rw [e]; exact Nat.le_refl _
    · have := ofS_m (nt := nt) (b := b) i (by omega)
      show _ ≤ ofS nt i + (5 + nt i)
      omega
theorem ofS_2 {nt : Nat → Nat} : ∀ i, 2 ≤ ofS nt i
  | 0 => Nat.le_refl _
  | i + 1 => by
    have := ofS_2 (nt := nt) i
    show 2 ≤ ofS nt i + (5 + nt i)
    omega
theorem im_G {nt : Nat → Nat} {s : Nat → bt} {h : Nat} (hh : h ≤ 999) : ∀ nb, (∀ b, b < nb → ∀ k, k < 5 + nt b → btN (s b) k ≤ 255) → ∃ G : Nat → Nat, G 0 = h / 256 ∧ G 1 = h % 256 ∧ (∀ j, G j ≤ 255) ∧ ∀ b, b < nb → ∀ k, k < 5 + nt b → G (ofS nt b + k) = btN (s b) k
  | 0, _ => ⟨fun j => if j = 0 then h / 256 else if j = 1 then h % 256 else 0, rfl, rfl, fun j => by
      show (if j = 0 then h / 256 else if j = 1 then h % 256 else 0) ≤ 255
      split
      · omega
      · split <;> omega, fun b hb => absurd hb (by omega)⟩
  | nb + 1, hs => by
    obtain ⟨G, g0, g1, g2, g3⟩ := im_G hh nb (fun b hb => hs b (by omega))
    have o2 := ofS_2 (nt := nt) nb
    refine ⟨fun j => if ofS nt nb ≤ j ∧ j < ofS nt nb + (5 + nt nb) then btN (s nb) (j - ofS nt nb) else G j, ?_, ?_, fun j => ?_, fun b hb k hk => ?_⟩
    · show (if _ then _ else _) = _
      rw [if_neg (by omega)]; exact g0
    · show (if _ then _ else _) = _
      rw [if_neg (by omega)]; exact g1
    · show (if _ then _ else _) ≤ 255
      split
      · next e => exact hs nb (by omega) _ (by omega)
      · exact g2 j
    · show (if _ then _ else _) = _
      by_cases e : b = nb
      · subst e
        rw [if_pos (by omega), show ofS nt b + k - ofS nt b = k by omega]
      · have := ofS_m (nt := nt) (b := b) nb (by omega)
        have e2 : ofS nt (b + 1) = ofS nt b + (5 + nt b) := rfl
        rw [if_neg (by omega)]
        exact g3 b (by omega) k hk
def ckS (G : Nat → Nat) : Nat → Nat → Nat → Nat
  | 0, _, c => c
  | m + 1, i, c => ckS G m (i + 1) ((3 * c + G i) % 251)
theorem ckS_b {G : Nat → Nat} : ∀ (m i c : Nat), c ≤ 250 → ckS G m i c ≤ 250
  | 0, _, _, h => h
  | m + 1, i, c, h => ckS_b m (i + 1) _ (by omega)
theorem cy_g {a0 a n0 n sp dp k : Nat} (h0 : am_kd a0 = (1, n0)) (h : am_kd a = (1, n)) (ha0 : a0 < 138) (ha : a < 138) (h1 : sp + k ≤ n0) (h2 : dp + k ≤ n) (q0 : n0 ≤ 10000) (q : n ≤ 10000) : am_cy 138 a0 (am_i sp) a (am_i dp) (am_i k) = true := by
  have b1 : Nat.blt a 138 = true := by rw [Nat.blt_eq]; exact ha
  have b2 : Nat.blt a0 138 = true := by rw [Nat.blt_eq]; exact ha0
  unfold am_cy
  simp (disch := first | assumption | omega) only [b1, b2, h0, h, am_i_cl, n_0le, Int.toNat_natCast, decide_true, Bool.and_true, Nat.beq]
  simp
  omega
section IMG
variable {d : Nat} {J : tJ} {R : tR} {c last nb : Nat} {nt : Nat → Nat} {G : Nat → Nat}
theorem x_check {I : tI} {a ln n : Nat} (h1 : Nat.blt a 138 = true) (h2 : Nat.ble 1 (am_kd a).1 = true) (h3 : Nat.ble (am_kd a).1 5 = true) (hl : am_ln R a = ln) (hcs : ∀ i, am_cs R 138 a i = am_ok i ln) (hn : n ≤ ln) (hln : ln ≤ 10000) (hG : ∀ j, j < n → G j ≤ 255 ∧ I a j = am_i (G j)) : ∀ (m i c : Nat), i + m = n → c ≤ 250 → am_E (d + 1) 58 6 [(0, .ref a), (1, .int (am_i n)), (2, .int (am_i c)), (3, .int (am_i i))] [] (I, J, R, 138) = some (some (.int (am_i (ckS G m i c))), (I, J, R, 138))
  | 0, i, c, hi, hc => by
    rw [sg_X7_check_6]
    simp (disch := first | assumption | omega) only [am_i_add, am_i_sub, am_i_mul, am_ok_i, am_i_cl, n_lt, n_le, n_eq, n_lt0, n_le0, n_0lt, n_0le, n_eq0, ne_eq, ↓reduceIte, not_true_eq_false, not_false_eq_true, and_true, true_and, and_false, false_and, eq_T, eq_F, lt_T, lt_F, le_T, le_F, qn_T, qn_F, and_F, b01_T, b01_F, e_isIn, Int32.toInt_toInt64, am_i_toInt, am_l_toInt, Int.toNat_natCast, Int.reduceToNat, Int.reduceAdd, Int.reduceSub, Int.reduceMul, Int.reduceNeg, Nat.reduceAdd, Nat.reduceMul, Nat.add_zero, Nat.mul_zero, Nat.zero_add, am_zb0, am_zb1, ↓Bool.cond_decide, cond_true, cond_false, ↓am_let_s, ↓bI_p, bIJ_s, ↓bV_p, bVJ_s, ↓bL_p, bLJ_s, ly_cf, Bool.and_self, Bool.and_true, sg_X7_check_35]
    rfl
  | m + 1, i, c, hi, hc => by
    obtain ⟨g1, g2⟩ := hG i (by omega)
    have ih := x_check h1 h2 h3 hl hcs hn hln hG m (i + 1) ((3 * c + G i) % 251) (by omega) (by omega)
    have nz : (!am_i 251 == 0) = true := by decide
    have ec : (3 : Int) * (c : Int) + (G i : Int) = ((3 * c + G i : Nat) : Int) := by omega
    have em : am_i ((3 * c + G i : Nat) : Int) - am_i ((3 * c + G i : Nat) : Int) / am_i 251 * am_i 251 = am_i (((3 * c + G i) % 251 : Nat) : Int) := mdN (a := 3 * c + G i) (b := 251) (by omega) (by omega)
    rw [sg_X7_check_6]
    simp (disch := first | assumption | omega) only [h1, h2, h3, hl, hcs, nz, am_i_add, am_i_sub, am_i_mul, am_ok_i, am_i_cl, n_lt, n_le, n_eq, n_lt0, n_le0, n_0lt, n_0le, n_eq0, ne_eq, ↓reduceIte, not_true_eq_false, not_false_eq_true, and_true, true_and, and_false, false_and, eq_T, eq_F, lt_T, lt_F, le_T, le_F, qn_T, qn_F, and_F, b01_T, b01_F, e_isIn, Int32.toInt_toInt64, am_i_toInt, am_l_toInt, Int.toNat_natCast, Int.reduceToNat, Int.reduceAdd, Int.reduceSub, Int.reduceMul, Int.reduceNeg, Nat.reduceAdd, Nat.reduceMul, Nat.add_zero, Nat.mul_zero, Nat.zero_add, am_zb0, am_zb1, ↓Bool.cond_decide, cond_true, cond_false, ↓am_let_s, ↓bI_p, bIJ_s, ↓bV_p, bVJ_s, ↓bL_p, bLJ_s, ly_cf, Bool.and_self, Bool.and_true, g2, ec, em, am_i_s, ih]
    rfl
theorem m_check {I : tI} {a ln n : Nat} (hcs : ∀ i, am_cs R 138 a i = am_ok i ln) (hn : n ≤ ln) (hln : ln ≤ 10000) (hG : ∀ j, j < n → G j ≤ 255 ∧ I a j = am_i (G j)) : ∀ (m i c : Nat), i + m = n → c ≤ 250 → am_E (d + 1) 288 6 [(0, .ref a), (1, .int (am_i n)), (2, .int (am_i c)), (3, .int (am_i i))] [] (I, J, R, 138) = some (some (.int (am_i (ckS G m i c))), (I, J, R, 138))
  | 0, i, c, hi, hc => by
    rw [sg_X12_checked_6]
    simp (disch := first | assumption | omega) only [am_i_add, am_i_sub, am_i_mul, am_ok_i, am_i_cl, n_lt, n_le, n_eq, n_lt0, n_le0, n_0lt, n_0le, n_eq0, ne_eq, ↓reduceIte, not_true_eq_false, not_false_eq_true, and_true, true_and, and_false, false_and, eq_T, eq_F, lt_T, lt_F, le_T, le_F, qn_T, qn_F, and_F, b01_T, b01_F, e_isIn, Int32.toInt_toInt64, am_i_toInt, am_l_toInt, Int.toNat_natCast, Int.reduceToNat, Int.reduceAdd, Int.reduceSub, Int.reduceMul, Int.reduceNeg, Nat.reduceAdd, Nat.reduceMul, Nat.add_zero, Nat.mul_zero, Nat.zero_add, am_zb0, am_zb1, ↓Bool.cond_decide, cond_true, cond_false, ↓am_let_s, ↓bI_p, bIJ_s, ↓bV_p, bVJ_s, ↓bL_p, bLJ_s, ly_cf, Bool.and_self, Bool.and_true]
    rfl
  | m + 1, i, c, hi, hc => by
    obtain ⟨g1, g2⟩ := hG i (by omega)
    have ih := m_check hcs hn hln hG m (i + 1) ((3 * c + G i) % 251) (by omega) (by omega)
    have nz : (!am_i 251 == 0) = true := by decide
    have ec : (3 : Int) * (c : Int) + (G i : Int) = ((3 * c + G i : Nat) : Int) := by omega
    have em : am_i ((3 * c + G i : Nat) : Int) - am_i ((3 * c + G i : Nat) : Int) / am_i 251 * am_i 251 = am_i (((3 * c + G i) % 251 : Nat) : Int) := mdN (a := 3 * c + G i) (b := 251) (by omega) (by omega)
    rw [sg_X12_checked_6]
    simp (disch := first | assumption | omega) only [hcs, nz, am_i_add, am_i_sub, am_i_mul, am_ok_i, am_i_cl, n_lt, n_le, n_eq, n_lt0, n_le0, n_0lt, n_0le, n_eq0, ne_eq, ↓reduceIte, not_true_eq_false, not_false_eq_true, and_true, true_and, and_false, false_and, eq_T, eq_F, lt_T, lt_F, le_T, le_F, qn_T, qn_F, and_F, b01_T, b01_F, e_isIn, Int32.toInt_toInt64, am_i_toInt, am_l_toInt, Int.toNat_natCast, Int.reduceToNat, Int.reduceAdd, Int.reduceSub, Int.reduceMul, Int.reduceNeg, Nat.reduceAdd, Nat.reduceMul, Nat.add_zero, Nat.mul_zero, Nat.zero_add, am_zb0, am_zb1, ↓Bool.cond_decide, cond_true, cond_false, ↓am_let_s, ↓bI_p, bIJ_s, ↓bV_p, bVJ_s, ↓bL_p, bLJ_s, ly_cf, Bool.and_self, Bool.and_true, g2, ec, em, am_i_s, ih]
    rfl
theorem x_w35 {I0 : tI} {s : Nat → bt} (hx : st_Rx R) (hc : c = 10 ∨ c = 20) (h6 : nb ≤ 6) (hnt : ∀ b, b < nb → nt b ≤ 6 ∧ I0 (c + 4) b = am_i (nt b)) (hI1 : I0 c 1 = am_i nb) (hB : ∀ b, b < nb → bX (I0 31) (11 * b) (nt b) (s b)) (hG2 : ∀ j, G j ≤ 255) (hG : ∀ b, b < nb → ∀ k, k < 5 + nt b → G (ofS nt b + k) = btN (s b) k) : ∀ (m i : Nat) (I : tI), i + m = nb → I 61 1 = am_i (ofS nt i) → (∀ j, j < ofS nt i → I 62 j = am_i (G j)) → (∀ q j, q ≠ 62 → ¬ (q = 61 ∧ j = 1) → I q j = I0 q j) → ∃ I', am_E (d + 2) 57 35 [(0, .ref 61), (1, .ref c), (2, .ref 31), (3, .int (am_i i))] [] (I, J, R, 138) = some (none, (I', J, R, 138)) ∧ I' 61 1 = am_i (ofS nt nb + 1 : Nat) ∧ (∀ j, j < ofS nt nb → I' 62 j = am_i (G j)) ∧ I' 62 (ofS nt nb) = am_i (ckS G (ofS nt nb) 0 193) ∧ ∀ q j, q ≠ 62 → ¬ (q = 61 ∧ j = 1) → I' q j = I0 q j
  | 0, i, I, hi, e61, e62, hI => by
    have : i = nb := by omega
    subst this
    have ob := ofS_b (fun b hb => (hnt b hb).1) i (Nat.le_refl _)
    have e1 : I c 1 = am_i i := by rw [hI _ _ (by omega) (by omega)]; exact hI1
    have ck : ∀ d, am_E (d + 1) 58 6 [(0, .ref 62), (1, .int (am_i (ofS nt i))), (2, .int (am_i 193)), (3, .int (am_i 0))] [] (I, J, R, 138) = some (some (.int (am_i (ckS G (ofS nt i) 0 193))), (I, J, R, 138)) := fun d => x_check (d := d) (J := J) (R := R) (I := I) (a := 62) (ln := 69) (n := ofS nt i) (G := G) (by decide) (by simp only [ly_kd]; decide) (by simp only [ly_kd]; decide) (by simp only [ly_ln]) (fun i => by simp only [ly_csx]) (by omega) (by omega) (fun j hj => ⟨hG2 j, e62 j hj⟩) (ofS nt i) 0 193 (by omega) (by omega)
    refine ⟨am_up (am_up I 62 (ofS nt i) (am_i (ckS G (ofS nt i) 0 193))) 61 1 (am_i ((ofS nt i + 1 : Nat) : Int)), ?_, am_up_e, fun j hj => ?_, ?_, fun q j h1 h2 => ?_⟩
    · have e61' : am_up I 62 (ofS nt i) (am_i (ckS G (ofS nt i) 0 193)) 61 1 = am_i (ofS nt i) := by rw [am_up_o (by omega)]; exact e61
      rw [sg_X7_write_35]
      simp (disch := first | assumption | omega) only [rX hx, ly_csx, ly_cax, ly_cf, ly_kd, ly_ln, ↓Bool.cond_decide, cond_true, cond_false, ↓bI_p, ↓bV_p, ↓bL_p, bIJ_s, bVJ_s, bLJ_s, ↓am_let_s, Nat.blt, Nat.ble, Bool.and_true, Bool.true_and, Bool.and_self, Int.cast_ofNat_Int, am_i_add, am_i_sub, am_i_mul, am_ok_i, am_i_cl, n_lt, n_le, n_eq, n_lt0, n_le0, n_0lt, n_0le, n_eq0, ne_eq, ↓reduceIte, not_true_eq_false, not_false_eq_true, and_true, true_and, and_false, false_and, eq_T, eq_F, lt_T, lt_F, le_T, le_F, qn_T, qn_F, and_F, b01_T, b01_F, e_isIn, Int32.toInt_toInt64, am_i_toInt, am_l_toInt, Int.toNat_natCast, Int.reduceToNat, Int.reduceAdd, Int.reduceSub, Int.reduceMul, Int.reduceNeg, Nat.reduceAdd, Nat.reduceMul, Nat.add_zero, Nat.mul_zero, Nat.zero_add, am_zb0, am_zb1, rC hx hc, e1, e61, sg_X7_check_0, ck, e61', am_i_s]
    · rw [am_up_o (by omega), am_up_o (by omega)]; exact e62 j hj
    · rw [am_up_o (by omega), am_up_e]
    · rw [am_up_o h2, am_up_o (by omega)]; exact hI q j h1 h2
  | m + 1, i, I, hi, e61, e62, hI => by
    have hib : i < nb := by omega
    obtain ⟨n6, n4⟩ := hnt i hib
    have ob := ofS_b (fun b hb => (hnt b hb).1) i (by omega)
    have oe : ofS nt (i + 1) = ofS nt i + (5 + nt i) := rfl
    have e1 : I c 1 = am_i nb := by rw [hI _ _ (by omega) (by omega)]; exact hI1
    have e4 : I (c + 4) i = am_i (nt i) := by rw [hI _ _ (by omega) (by omega)]; exact n4
    have ei : am_i (i : Int) * am_i 11 = am_i ((11 * i : Nat) : Int) := by rw [am_i_mul]; congr 1; omega
    have ei2 : (i : Int) * 11 = ((11 * i : Nat) : Int) := by omega
    have e5 : (5 : Int) + (nt i : Int) = ((5 + nt i : Nat) : Int) := by omega
    have cy : am_cy 138 31 (am_i ((11 * i : Nat) : Int)) 62 (am_i (ofS nt i)) (am_i ((5 + nt i : Nat) : Int)) = true := cy_g (n0 := 68) (n := 69) (by simp only [ly_kd]) (by simp only [ly_kd]) (by omega) (by omega) (by omega) (by omega) (by omega) (by omega)
    have c61 : am_cp I 31 (11 * i) 62 (ofS nt i) (5 + nt i) 61 1 = am_i (ofS nt i) := by rw [am_cp_ap, if_neg (by omega)]; exact e61
    have es : (ofS nt i : Int) + ((5 + nt i : Nat) : Int) = ((ofS nt (i + 1) : Nat) : Int) := by omega
    obtain ⟨I', p1, p2, p3, p4, p5⟩ := x_w35 hx hc h6 hnt hI1 hB hG2 hG m (i + 1) (am_up (am_cp I 31 (11 * i) 62 (ofS nt i) (5 + nt i)) 61 1 (am_i (ofS nt (i + 1)))) (by omega) am_up_e (fun j hj => by
      rw [am_up_o (by omega), am_cp_ap, if_pos rfl]
      unfold va_cpy
      by_cases e : ofS nt i ≤ j ∧ j < ofS nt i + (5 + nt i)
      · rw [if_pos (by omega), hI _ _ (by omega) (by omega), btN_X (hB i hib) (j - ofS nt i) (by omega), ← hG i hib (j - ofS nt i) (by omega), show ofS nt i + (j - ofS nt i) = j by omega]
      · rw [if_neg (by omega)]
        exact e62 j (by omega)) (fun q j h1 h2 => by
      rw [am_up_o h2, am_cp_ap, if_neg h1]
      exact hI q j h1 h2)
    refine ⟨I', ?_, p2, p3, p4, p5⟩
    rw [← p1, sg_X7_write_35]
    simp (disch := first | assumption | omega) only [rX hx, ly_csx, ly_cax, ly_cf, ly_kd, ly_ln, ↓Bool.cond_decide, cond_true, cond_false, ↓bI_p, ↓bV_p, ↓bL_p, bIJ_s, bVJ_s, bLJ_s, ↓am_let_s, Nat.blt, Nat.ble, Bool.and_true, Bool.true_and, Bool.and_self, Int.cast_ofNat_Int, am_i_add, am_i_sub, am_i_mul, am_ok_i, am_i_cl, n_lt, n_le, n_eq, n_lt0, n_le0, n_0lt, n_0le, n_eq0, ne_eq, ↓reduceIte, not_true_eq_false, not_false_eq_true, and_true, true_and, and_false, false_and, eq_T, eq_F, lt_T, lt_F, le_T, le_F, qn_T, qn_F, and_F, b01_T, b01_F, e_isIn, Int32.toInt_toInt64, am_i_toInt, am_l_toInt, Int.toNat_natCast, Int.reduceToNat, Int.reduceAdd, Int.reduceSub, Int.reduceMul, Int.reduceNeg, Nat.reduceAdd, Nat.reduceMul, Nat.add_zero, Nat.mul_zero, Nat.zero_add, am_zb0, am_zb1, rC hx hc, e1, e4, ei2, e5, e61, cy, c61, es, am_i_s]
theorem m_im45 {I0 : tI} {s : Nat → bt} {i : Nat} (hm : st_Rm R) (h6 : nb ≤ 6) (hib : i < nb) (hnt : ∀ b, b < nb → nt b ≤ 6 ∧ I0 96 (27 + 4 * b) = am_i (nt b)) (hB : ∀ b, b < nb → bX (I0 103) (1 + 11 * b) (nt b) (s b)) (hG : ∀ b, b < nb → ∀ k, k < 5 + nt b → G (ofS nt b + k) = btN (s b) k) : ∀ (m k : Nat) (I : tI), k + m = 5 + nt i → I 64 105 = am_i (ofS nt i + k : Nat) → (∀ j, j < ofS nt i + k → I 137 j = am_i (G j)) → (∀ q j, q ≠ 137 → ¬ (q = 64 ∧ j = 105) → I q j = I0 q j) → ∃ I', am_E (d + 2) 290 45 [(0, .ref 64), (1, .int (am_i i)), (2, .int (am_i k))] [] (I, J, R, 138) = am_E (d + 2) 290 35 [(0, .ref 64), (1, .int (am_i (i + 1 : Nat)))] [] (I', J, R, 138) ∧ I' 64 105 = am_i (ofS nt (i + 1)) ∧ (∀ j, j < ofS nt (i + 1) → I' 137 j = am_i (G j)) ∧ ∀ q j, q ≠ 137 → ¬ (q = 64 ∧ j = 105) → I' q j = I0 q j
  | 0, k, I, hk, e105, e137, hI => by
    obtain ⟨n6, n4⟩ := hnt i hib
    have oe : ofS nt (i + 1) = ofS nt i + (5 + nt i) := rfl
    have nm : ∀ d, am_E (d + 1) 201 0 [(0, .ref 64), (1, .int (am_i i))] [] (I, J, R, 138) = some (some (.int (am_i (nt i))), (I, J, R, 138)) := fun d => by
      rw [e_noteMany hm (by omega) (by omega), Int.toNat_natCast, hI _ _ (by omega) (by omega), n4]
    refine ⟨I, ?_, by rw [e105]; congr 2; omega, fun j hj => e137 j (by omega), hI⟩
    rw [sg_X12_image_45]
    simp (disch := first | assumption | omega) only [↓Bool.cond_decide, cond_true, cond_false, ↓am_let_s, ↓bI_p, bIJ_s, ↓bV_p, bVJ_s, ↓bL_p, bLJ_s, ly_cf, Bool.and_self, Bool.and_true, am_i_add, am_i_sub, am_i_mul, am_ok_i, am_i_cl, n_lt, n_le, n_eq, n_lt0, n_le0, n_0lt, n_0le, n_eq0, ne_eq, ↓reduceIte, not_true_eq_false, not_false_eq_true, and_true, true_and, and_false, false_and, eq_T, eq_F, lt_T, lt_F, le_T, le_F, qn_T, qn_F, and_F, b01_T, b01_F, e_isIn, Int32.toInt_toInt64, am_i_toInt, am_l_toInt, Int.toNat_natCast, Int.reduceToNat, Int.reduceAdd, Int.reduceSub, Int.reduceMul, Int.reduceNeg, Nat.reduceAdd, Nat.reduceMul, Nat.add_zero, Nat.mul_zero, Nat.zero_add, am_zb0, am_zb1, nm, am_i_s]
  | m + 1, k, I, hk, e105, e137, hI => by
    obtain ⟨n6, n4⟩ := hnt i hib
    have ob := ofS_b (fun b hb => (hnt b hb).1) i (by omega)
    have nm : ∀ d, am_E (d + 1) 201 0 [(0, .ref 64), (1, .int (am_i i))] [] (I, J, R, 138) = some (some (.int (am_i (nt i))), (I, J, R, 138)) := fun d => by
      rw [e_noteMany hm (by omega) (by omega), Int.toNat_natCast, hI _ _ (by omega) (by omega), n4]
    have e103 : I 103 (1 + 11 * i + k) = am_i (G (ofS nt i + k)) := by
      rw [hI _ _ (by omega) (by omega), btN_X (hB i hib) k (by omega), hG i hib k (by omega)]
    have en : ((1 : Int) + 11 * (i : Int) + (k : Int)).toNat = 1 + 11 * i + k := by omega
    have es : ((ofS nt i + k : Nat) : Int) + 1 = ((ofS nt i + (k + 1) : Nat) : Int) := by omega
    have wr : ∀ d, am_E (d + 1) 289 0 [(0, .ref 64), (1, .int (am_i (G (ofS nt i + k))))] [] (I, J, R, 138) = some (none, (am_up (am_up I 137 (ofS nt i + k) (am_i (G (ofS nt i + k)))) 64 105 (am_i ((ofS nt i + (k + 1) : Nat) : Int)), J, R, 138)) := fun d => by
      have e105' : am_up I 137 (ofS nt i + k) (am_i (G (ofS nt i + k))) 64 105 = am_i (ofS nt i + k : Nat) := by rw [am_up_o (by omega)]; exact e105
      rw [sg_X12_writes_0]
      simp (disch := first | assumption | omega) only [rM hm, ly_csm, ly_cam, ly_cf, ly_kd, ly_ln, ↓Bool.cond_decide, cond_true, cond_false, ↓bI_p, ↓bV_p, ↓bL_p, bIJ_s, bVJ_s, bLJ_s, ↓am_let_s, Nat.blt, Nat.ble, Bool.and_true, Bool.true_and, Bool.and_self, Int.cast_ofNat_Int, am_i_add, am_i_sub, am_i_mul, am_ok_i, am_i_cl, n_lt, n_le, n_eq, n_lt0, n_le0, n_0lt, n_0le, n_eq0, ne_eq, ↓reduceIte, not_true_eq_false, not_false_eq_true, and_true, true_and, and_false, false_and, eq_T, eq_F, lt_T, lt_F, le_T, le_F, qn_T, qn_F, and_F, b01_T, b01_F, e_isIn, Int32.toInt_toInt64, am_i_toInt, am_l_toInt, Int.toNat_natCast, Int.reduceToNat, Int.reduceAdd, Int.reduceSub, Int.reduceMul, Int.reduceNeg, Nat.reduceAdd, Nat.reduceMul, Nat.add_zero, Nat.mul_zero, Nat.zero_add, am_zb0, am_zb1, e105, e105', es]
    obtain ⟨I', p1, p2, p3, p4⟩ := m_im45 hm h6 hib hnt hB hG m (k + 1) (am_up (am_up I 137 (ofS nt i + k) (am_i (G (ofS nt i + k)))) 64 105 (am_i ((ofS nt i + (k + 1) : Nat) : Int))) (by omega) am_up_e (fun j hj => by
      rw [am_up_o (by omega)]
      by_cases e : j = ofS nt i + k
      · rw [e, am_up_e]
      · rw [am_up_o (by omega)]; exact e137 j (by omega)) (fun q j h1 h2 => by
      rw [am_up_o h2, am_up_o (by omega)]
      exact hI q j h1 h2)
    refine ⟨I', ?_, p2, p3, p4⟩
    rw [← p1, sg_X12_image_45]
    simp (disch := first | assumption | omega) only [rM hm, ly_csm, ly_cam, ly_cf, ly_kd, ly_ln, ↓Bool.cond_decide, cond_true, cond_false, ↓bI_p, ↓bV_p, ↓bL_p, bIJ_s, bVJ_s, bLJ_s, ↓am_let_s, Nat.blt, Nat.ble, Bool.and_true, Bool.true_and, Bool.and_self, Int.cast_ofNat_Int, am_i_add, am_i_sub, am_i_mul, am_ok_i, am_i_cl, n_lt, n_le, n_eq, n_lt0, n_le0, n_0lt, n_0le, n_eq0, ne_eq, ↓reduceIte, not_true_eq_false, not_false_eq_true, and_true, true_and, and_false, false_and, eq_T, eq_F, lt_T, lt_F, le_T, le_F, qn_T, qn_F, and_F, b01_T, b01_F, e_isIn, Int32.toInt_toInt64, am_i_toInt, am_l_toInt, Int.toNat_natCast, Int.reduceToNat, Int.reduceAdd, Int.reduceSub, Int.reduceMul, Int.reduceNeg, Nat.reduceAdd, Nat.reduceMul, Nat.add_zero, Nat.mul_zero, Nat.zero_add, am_zb0, am_zb1, nm, en, e103, wr, am_i_s]
theorem m_im35 {I0 : tI} {s : Nat → bt} (hm : st_Rm R) (h6 : nb ≤ 6) (h94 : I0 94 3 = am_i nb) (hnt : ∀ b, b < nb → nt b ≤ 6 ∧ I0 96 (27 + 4 * b) = am_i (nt b)) (hB : ∀ b, b < nb → bX (I0 103) (1 + 11 * b) (nt b) (s b)) (hG2 : ∀ j, G j ≤ 255) (hG : ∀ b, b < nb → ∀ k, k < 5 + nt b → G (ofS nt b + k) = btN (s b) k) : ∀ (m i : Nat) (I : tI), i + m = nb → I 64 105 = am_i (ofS nt i) → (∀ j, j < ofS nt i → I 137 j = am_i (G j)) → (∀ q j, q ≠ 137 → ¬ (q = 64 ∧ j = 105) → I q j = I0 q j) → ∃ I', am_E (d + 2) 290 35 [(0, .ref 64), (1, .int (am_i i))] [] (I, J, R, 138) = some (some (.int (am_i (ofS nt nb + 1 : Nat))), (I', J, R, 138)) ∧ I' 64 105 = am_i (ofS nt nb + 1 : Nat) ∧ (∀ j, j < ofS nt nb → I' 137 j = am_i (G j)) ∧ I' 137 (ofS nt nb) = am_i (ckS G (ofS nt nb) 0 193) ∧ ∀ q j, q ≠ 137 → ¬ (q = 64 ∧ j = 105) → I' q j = I0 q j
  | 0, i, I, hi, e105, e137, hI => by
    have : i = nb := by omega
    subst this
    have ob := ofS_b (fun b hb => (hnt b hb).1) i (Nat.le_refl _)
    have eM := fun d => e_many (d := d) (I := I) (J := J) (nb := i) hm (by rw [hI _ _ (by omega) (by omega)]; exact h94)
    have ck : ∀ d, am_E (d + 1) 288 6 [(0, .ref 137), (1, .int (am_i (ofS nt i))), (2, .int (am_i 193)), (3, .int (am_i 0))] [] (I, J, R, 138) = some (some (.int (am_i (ckS G (ofS nt i) 0 193))), (I, J, R, 138)) := fun d => m_check (d := d) (J := J) (R := R) (I := I) (a := 137) (ln := 69) (n := ofS nt i) (G := G) (fun i => by simp only [ly_csm]) (by omega) (by omega) (fun j hj => ⟨hG2 j, e137 j hj⟩) (ofS nt i) 0 193 (by omega) (by omega)
    have wr : ∀ d, am_E (d + 1) 289 0 [(0, .ref 64), (1, .int (am_i (ckS G (ofS nt i) 0 193)))] [] (I, J, R, 138) = some (none, (am_up (am_up I 137 (ofS nt i) (am_i (ckS G (ofS nt i) 0 193))) 64 105 (am_i ((ofS nt i + 1 : Nat) : Int)), J, R, 138)) := fun d => by
      have e105' : am_up I 137 (ofS nt i) (am_i (ckS G (ofS nt i) 0 193)) 64 105 = am_i (ofS nt i) := by rw [am_up_o (by omega)]; exact e105
      rw [sg_X12_writes_0]
      simp (disch := first | assumption | omega) only [rM hm, ly_csm, ly_cam, ly_cf, ly_kd, ly_ln, ↓Bool.cond_decide, cond_true, cond_false, ↓bI_p, ↓bV_p, ↓bL_p, bIJ_s, bVJ_s, bLJ_s, ↓am_let_s, Nat.blt, Nat.ble, Bool.and_true, Bool.true_and, Bool.and_self, Int.cast_ofNat_Int, am_i_add, am_i_sub, am_i_mul, am_ok_i, am_i_cl, n_lt, n_le, n_eq, n_lt0, n_le0, n_0lt, n_0le, n_eq0, ne_eq, ↓reduceIte, not_true_eq_false, not_false_eq_true, and_true, true_and, and_false, false_and, eq_T, eq_F, lt_T, lt_F, le_T, le_F, qn_T, qn_F, and_F, b01_T, b01_F, e_isIn, Int32.toInt_toInt64, am_i_toInt, am_l_toInt, Int.toNat_natCast, Int.reduceToNat, Int.reduceAdd, Int.reduceSub, Int.reduceMul, Int.reduceNeg, Nat.reduceAdd, Nat.reduceMul, Nat.add_zero, Nat.mul_zero, Nat.zero_add, am_zb0, am_zb1, e105, e105', am_i_s]
    refine ⟨am_up (am_up I 137 (ofS nt i) (am_i (ckS G (ofS nt i) 0 193))) 64 105 (am_i ((ofS nt i + 1 : Nat) : Int)), ?_, am_up_e, fun j hj => ?_, ?_, fun q j h1 h2 => ?_⟩
    · rw [sg_X12_image_35]
      simp (disch := first | assumption | omega) only [rM hm, ly_csm, ly_cam, ly_cf, ly_kd, ly_ln, ↓Bool.cond_decide, cond_true, cond_false, ↓bI_p, ↓bV_p, ↓bL_p, bIJ_s, bVJ_s, bLJ_s, ↓am_let_s, Nat.blt, Nat.ble, Bool.and_true, Bool.true_and, Bool.and_self, Int.cast_ofNat_Int, am_i_add, am_i_sub, am_i_mul, am_ok_i, am_i_cl, n_lt, n_le, n_eq, n_lt0, n_le0, n_0lt, n_0le, n_eq0, ne_eq, ↓reduceIte, not_true_eq_false, not_false_eq_true, and_true, true_and, and_false, false_and, eq_T, eq_F, lt_T, lt_F, le_T, le_F, qn_T, qn_F, and_F, b01_T, b01_F, e_isIn, Int32.toInt_toInt64, am_i_toInt, am_l_toInt, Int.toNat_natCast, Int.reduceToNat, Int.reduceAdd, Int.reduceSub, Int.reduceMul, Int.reduceNeg, Nat.reduceAdd, Nat.reduceMul, Nat.add_zero, Nat.mul_zero, Nat.zero_add, am_zb0, am_zb1, eM, e105, sg_X12_checked_0, ck, wr, am_up_e]
    · rw [am_up_o (by omega), am_up_o (by omega)]; exact e137 j hj
    · rw [am_up_o (by omega), am_up_e]
    · rw [am_up_o h2, am_up_o (by omega)]; exact hI q j h1 h2
  | m + 1, i, I, hi, e105, e137, hI => by
    have eM := fun d => e_many (d := d) (I := I) (J := J) (nb := nb) hm (by rw [hI _ _ (by omega) (by omega)]; exact h94)
    obtain ⟨I1, g1, g2, g3, g4⟩ := m_im45 (d := d) (J := J) (R := R) (I0 := I0) (i := i) hm h6 (by omega) hnt hB hG (5 + nt i) 0 I (by omega) (by rw [e105]; rfl) e137 hI
    have g1' : am_E (d + 2) 290 45 [(0, .ref 64), (1, .int (am_i i)), (2, .int (am_i 0))] [] (I, J, R, 138) = _ := g1
    obtain ⟨I', p1, p2⟩ := m_im35 hm h6 h94 hnt hB hG2 hG m (i + 1) I1 (by omega) g2 g3 g4
    refine ⟨I', ?_, p2⟩
    rw [← p1, ← g1', sg_X12_image_35]
    simp (disch := first | assumption | omega) only [rM hm, ly_csm, ly_cam, ly_cf, ly_kd, ly_ln, ↓Bool.cond_decide, cond_true, cond_false, ↓bI_p, ↓bV_p, ↓bL_p, bIJ_s, bVJ_s, bLJ_s, ↓am_let_s, Nat.blt, Nat.ble, Bool.and_true, Bool.true_and, Bool.and_self, Int.cast_ofNat_Int, am_i_add, am_i_sub, am_i_mul, am_ok_i, am_i_cl, n_lt, n_le, n_eq, n_lt0, n_le0, n_0lt, n_0le, n_eq0, ne_eq, ↓reduceIte, not_true_eq_false, not_false_eq_true, and_true, true_and, and_false, false_and, eq_T, eq_F, lt_T, lt_F, le_T, le_F, qn_T, qn_F, and_F, b01_T, b01_F, e_isIn, Int32.toInt_toInt64, am_i_toInt, am_l_toInt, Int.toNat_natCast, Int.reduceToNat, Int.reduceAdd, Int.reduceSub, Int.reduceMul, Int.reduceNeg, Nat.reduceAdd, Nat.reduceMul, Nat.add_zero, Nat.mul_zero, Nat.zero_add, am_zb0, am_zb1, eM]
end IMG
def iC (q k : Nat) : Prop := (q = 61 ∧ k = 1) ∨ (q = 64 ∧ k = 105) ∨ q = 62 ∨ q = 137
theorem vV_p {L : Nat} {xs : Nat → Int32} {I I' : tI} {J : tJ} {R : tR} (hV : vV restW L xs I J R) (hI : ∀ q k, ¬ iC q k → I' q k = I q k) (t1 : vPic I') : vV restW L xs I' J R := by
  obtain ⟨⟨h1, h2, hx, hm, hmu⟩, ht, hr, hf, hp, hs, hsd, hw⟩ := hV
  refine ⟨⟨funext (fun k => by rw [hI 1 k (by unfold iC; omega), h1]), h2, hx, hm, hmu⟩, vTape_cg I I' (fun q k e => hI q k ?_) ht, vRefd_cg I I' (fun q k e => hI q k ?_) hr, vFault_cg I I' (fun q k e => hI q k ?_) hf, t1, vSeen_cg I I' (fun q k e => hI q k ?_) hs, vSeed_cg J I I' (fun q k e => hI q k ?_) hsd, restW_C I J R I' J R (fun q k e => hI q k ?_) (fun _ _ _ => rfl) (fun _ _ _ => rfl) hw⟩
  · unfold dTape at e; simp at e; unfold iC; omega
  · unfold dRefd at e; simp at e; unfold iC; omega
  · unfold dFault at e; simp at e; unfold iC; omega
  · unfold dSeen at e; simp at e; unfold iC; omega
  · unfold dSeed at e; simp at e; unfold iC; omega
  · unfold dW at e; simp at e; unfold iC; omega
section PIMG
variable {L : Nat} {xs : Nat → Int32}
theorem p_image (d : Nat) : pr_I (vV restW L xs) (d + 3) 132 290 [] := by
  refine pW_I ?_
  intro I J R hV
  have hV0 := hV
  obtain ⟨⟨h1, h2, hx, hm, hmu⟩, ht, hr, hf, hp, hs, hd, hw⟩ := hV
  obtain ⟨c, last, nb, nr, nw, wd, sq, K, nt, wf, fm, h4, hc, hB, hN, hF, ⟨h, s, ⟨hh, e66, g0, hbt⟩, ⟨ek, gk, hkp⟩, hKh⟩, hA, hX⟩ := hw
  obtain ⟨b1, b2, b3, b4, b5, b6, b7, b8, i0, m0, i1, m1, i2, m2, i3, m3, i4, m4, i5, m5, mS, mT, hnt, hky, hwf⟩ := hB
  obtain ⟨G, G0, G1, G2, G3⟩ := im_G (nt := nt) (s := s) hh nb (fun b hb => btN_b b2 (hnt b hb).1 (hbt b hb).1)
  have ob := ofS_b (fun b hb => (hnt b hb).1) nb (Nat.le_refl _)
  have nz : (!am_i 256 == 0) = true := by decide
  have em : am_i ((h : Int) - (G 0 : Int) * 256) = am_i (G 1) := by congr 1; omega
  have em' : am_i (h : Int) - am_i (G 0) * am_i 256 = am_i (G 1) := by rw [am_i_mul, am_i_sub, em]
  have ed : am_i (h : Int) / am_i 256 = am_i (G 0) := by rw [G0]; exact dvN (a := h) (b := 256) (by omega) (by omega)
  refine ⟨am_i (ofS nt nb + 1 : Nat), ?_⟩
  have f66 : am_up I 62 0 (am_i (G 0)) 31 66 = am_i h := by rw [am_up_o (by omega)]; exact e66
  have q61 : am_up (am_up (am_up I 62 0 (am_i (G 0))) 62 1 (am_i (G 1))) 61 1 (am_i 2) 61 1 = am_i (ofS nt 0) := am_up_e
  have q62 : ∀ j, j < ofS nt 0 → am_up (am_up (am_up I 62 0 (am_i (G 0))) 62 1 (am_i (G 1))) 61 1 (am_i 2) 62 j = am_i (G j) := fun j hj => by
    have hj' : j < 2 := hj
    rw [am_up_o (by omega)]
    by_cases e : j = 1
    · rw [e, am_up_e]
    · rw [am_up_o (by omega), show j = 0 by omega, am_up_e]
  have qI : ∀ q j, q ≠ 62 → ¬ (q = 61 ∧ j = 1) → am_up (am_up (am_up I 62 0 (am_i (G 0))) 62 1 (am_i (G 1))) 61 1 (am_i 2) q j = I q j := fun q j h1 h2 => by rw [am_up_o h2, am_up_o (by omega), am_up_o (by omega)]
  obtain ⟨I1, p1, p2, p3, p4, p5⟩ := x_w35 (d := d) (J := J) (R := R) (I0 := I) (s := s) (G := G) (nt := nt) hx hc b3 (fun b hb => ⟨(hnt b hb).1, (hnt b hb).2.1⟩) i1 (fun b hb => (hbt b hb).2.1) G2 G3 nb 0 _ (by omega) q61 q62 qI
  have p1' : am_E (d + 2) 57 35 [(0, .ref 61), (1, .ref c), (2, .ref 31), (3, .int (am_i 0))] [] (am_up (am_up (am_up I 62 0 (am_i (G 0))) 62 1 (am_i (G 1))) 61 1 (am_i 2), J, R, 138) = _ := p1
  have cl : am_E (d + 3) 132 0 [(0, .ref 3)] [] (I, J, R, 138) = some (some (.int (am_i (ofS nt nb + 1 : Nat))), (I1, J, R, 138)) := by
    rw [sg_X11_image_0]
    simp (disch := first | assumption | omega) only [rX hx, ly_csx, ly_cax, ly_cf, ly_kd, ly_ln, ↓Bool.cond_decide, cond_true, cond_false, ↓bI_p, ↓bV_p, ↓bL_p, bIJ_s, bVJ_s, bLJ_s, ↓am_let_s, Nat.blt, Nat.ble, Bool.and_true, Bool.true_and, Bool.and_self, Int.cast_ofNat_Int, am_i_add, am_i_sub, am_i_mul, am_ok_i, am_i_cl, n_lt, n_le, n_eq, n_lt0, n_le0, n_0lt, n_0le, n_eq0, ne_eq, ↓reduceIte, not_true_eq_false, not_false_eq_true, and_true, true_and, and_false, false_and, eq_T, eq_F, lt_T, lt_F, le_T, le_F, qn_T, qn_F, and_F, b01_T, b01_F, e_isIn, Int32.toInt_toInt64, am_i_toInt, am_l_toInt, Int.toNat_natCast, Int.reduceToNat, Int.reduceAdd, Int.reduceSub, Int.reduceMul, Int.reduceNeg, Nat.reduceAdd, Nat.reduceMul, Nat.add_zero, Nat.mul_zero, Nat.zero_add, am_zb0, am_zb1, h4, sg_X7_write_0, e66, nz, ed, f66, em, p1', p2]
  refine Wp_e cl (Wp_r ⟨I1, J, R, rfl, rfl, funext (fun k => p5 1 k (by omega) (by omega)), rfl, ?_⟩)
  have wr : ∀ (d n : Nat) (v : Int32) (I : tI), n < 69 → I 64 105 = am_i n → am_E (d + 1) 289 0 [(0, .ref 64), (1, .int v)] [] (I, J, R, 138) = some (none, (am_up (am_up I 137 n v) 64 105 (am_i ((n + 1 : Nat) : Int)), J, R, 138)) := fun d n v I hn e105 => by
    have e105' : am_up I 137 n v 64 105 = am_i n := by rw [am_up_o (by omega)]; exact e105
    rw [sg_X12_writes_0]
    simp (disch := first | assumption | omega) only [rM hm, ly_csm, ly_cam, ly_cf, ly_kd, ly_ln, ↓Bool.cond_decide, cond_true, cond_false, ↓bI_p, ↓bV_p, ↓bL_p, bIJ_s, bVJ_s, bLJ_s, ↓am_let_s, Nat.blt, Nat.ble, Bool.and_true, Bool.true_and, Bool.and_self, Int.cast_ofNat_Int, am_i_add, am_i_sub, am_i_mul, am_ok_i, am_i_cl, n_lt, n_le, n_eq, n_lt0, n_le0, n_0lt, n_0le, n_eq0, ne_eq, ↓reduceIte, not_true_eq_false, not_false_eq_true, and_true, true_and, and_false, false_and, eq_T, eq_F, lt_T, lt_F, le_T, le_F, qn_T, qn_F, and_F, b01_T, b01_F, e_isIn, Int32.toInt_toInt64, am_i_toInt, am_l_toInt, Int.toNat_natCast, Int.reduceToNat, Int.reduceAdd, Int.reduceSub, Int.reduceMul, Int.reduceNeg, Nat.reduceAdd, Nat.reduceMul, Nat.add_zero, Nat.mul_zero, Nat.zero_add, am_zb0, am_zb1, e105, e105', am_i_s]
  have w1 := fun d => wr d 0 (am_i (G 0)) (am_up I1 64 105 (am_i 0)) (by omega) am_up_e
  have w2 := fun d => wr d 1 (am_i (G 1)) (am_up (am_up (am_up I1 64 105 (am_i 0)) 137 0 (am_i (G 0))) 64 105 (am_i ((0 + 1 : Nat) : Int))) (by omega) am_up_e
  have k103 : am_up I1 64 105 (am_i 0) 103 0 = am_i h := by rw [am_up_o (by omega), p5 _ _ (by omega) (by omega)]; exact g0
  have k103' : am_up (am_up (am_up I1 64 105 (am_i 0)) 137 0 (am_i (G 0))) 64 105 (am_i ((0 + 1 : Nat) : Int)) 103 0 = am_i h := by rw [am_up_o (by omega), am_up_o (by omega)]; exact k103
  have z105 : am_up (am_up (am_up (am_up (am_up I1 64 105 (am_i 0)) 137 0 (am_i (G 0))) 64 105 (am_i ((0 + 1 : Nat) : Int))) 137 1 (am_i (G 1))) 64 105 (am_i ((1 + 1 : Nat) : Int)) 64 105 = am_i (ofS nt 0) := am_up_e
  have z137 : ∀ j, j < ofS nt 0 → am_up (am_up (am_up (am_up (am_up I1 64 105 (am_i 0)) 137 0 (am_i (G 0))) 64 105 (am_i ((0 + 1 : Nat) : Int))) 137 1 (am_i (G 1))) 64 105 (am_i ((1 + 1 : Nat) : Int)) 137 j = am_i (G j) := fun j hj => by
    have hj' : j < 2 := hj
    rw [am_up_o (by omega)]
    by_cases e : j = 1
    · rw [e, am_up_e]
    · rw [am_up_o (by omega), am_up_o (by omega), show j = 0 by omega, am_up_e]
  have zI : ∀ q j, q ≠ 137 → ¬ (q = 64 ∧ j = 105) → am_up (am_up (am_up (am_up (am_up I1 64 105 (am_i 0)) 137 0 (am_i (G 0))) 64 105 (am_i ((0 + 1 : Nat) : Int))) 137 1 (am_i (G 1))) 64 105 (am_i ((1 + 1 : Nat) : Int)) q j = I1 q j := fun q j h1 h2 => by rw [am_up_o h2, am_up_o (by omega), am_up_o h2, am_up_o (by omega), am_up_o h2]
  obtain ⟨I2, v1, v2, v3, v4, v5⟩ := m_im35 (d := d + 1) (J := J) (R := R) (I0 := I1) (s := s) (G := G) (nt := nt) hm b3 (by rw [p5 _ _ (by omega) (by omega)]; exact m1) (fun b hb => ⟨(hnt b hb).1, by rw [p5 _ _ (by omega) (by omega)]; exact (hnt b hb).2.2⟩) (fun b hb => by
    obtain ⟨y0, y1, y2, y3, y4, y5⟩ := (hbt b hb).2.2
    exact ⟨by rw [p5 _ _ (by omega) (by omega)]; exact y0, by rw [p5 _ _ (by omega) (by omega)]; exact y1, by rw [p5 _ _ (by omega) (by omega)]; exact y2, by rw [p5 _ _ (by omega) (by omega)]; exact y3, by rw [p5 _ _ (by omega) (by omega)]; exact y4, fun k hk => by rw [p5 _ _ (by omega) (by omega)]; exact y5 k hk⟩) G2 G3 nb 0 _ (by omega) z105 z137 zI
  have v1' : am_E (d + 3) 290 35 [(0, .ref 64), (1, .int (am_i 0))] [] (am_up (am_up (am_up (am_up (am_up I1 64 105 (am_i 0)) 137 0 (am_i (G 0))) 64 105 (am_i ((0 + 1 : Nat) : Int))) 137 1 (am_i (G 1))) 64 105 (am_i ((1 + 1 : Nat) : Int)), J, R, 138) = _ := v1
  have cm : am_E (d + 3) 290 0 [(0, .ref 64)] [] (I1, J, R, 138) = some (some (.int (am_i (ofS nt nb + 1 : Nat))), (I2, J, R, 138)) := by
    rw [sg_X12_image_0]
    simp (disch := first | assumption | omega) only [rM hm, ly_csm, ly_cam, ly_cf, ly_kd, ly_ln, ↓Bool.cond_decide, cond_true, cond_false, ↓bI_p, ↓bV_p, ↓bL_p, bIJ_s, bVJ_s, bLJ_s, ↓am_let_s, Nat.blt, Nat.ble, Bool.and_true, Bool.true_and, Bool.and_self, Int.cast_ofNat_Int, nz, k103, ed, w1, k103', em', w2, v1', am_ok_i, am_i_cl, Int.reduceToNat]
  refine Wp_e cm (Wp_r ⟨I2, J, R, rfl, rfl, vV_p hV0 (fun q k e => ?_) ⟨ofS nt nb + 1, by omega, ?_, v2, fun k hk => ?_⟩⟩)
  · unfold iC at e
    rw [v5 q k (by omega) (by omega), p5 q k (by omega) (by omega)]
  · rw [v5 _ _ (by omega) (by omega)]; exact p2
  · rw [v5 _ _ (by omega) (by omega)]
    by_cases e : k = ofS nt nb
    · rw [e, p4, v4]
    · rw [p3 k (by omega), v3 k (by omega)]
end PIMG
