/-! ===== read as a whole: the class ===== -/
section XRE2
variable {d : Nat} {J : tJ} {R : tR} {T : Nat → Nat} {n p i c : Nat} {I I' : tI} {X : sSt}
theorem sdFi_e {r1 r2 r3 : Nat × Nat} (h1 : r1 = aW T n 0 0) (h2 : r2 = rS r1 (fun p => aN T n p 5 60)) (h3 : r3 = rS r2 (fun p => aS T n p 59)) : sdFi T n = (if r3.1 = 0 then (0, r3.2, (tV T n r1.2, 0, 0, 0, 0, [], [], fun _ => 0, fun _ => none)) else (r3.1, r3.2, sX0)) ∧ (r3.1 = 0 → r1.1 = 0 ∧ r2.1 = 0) := by
  refine ⟨?_, fun e => ?_⟩
  · unfold sdFi
    rw [← h1]
    by_cases q1 : r1.1 = 0
    · rw [sI_0 q1]
      rw [rS_0 q1] at h2
      rw [← h2]
      by_cases q2 : r2.1 = 0
      · rw [sI_0 q2]
        rw [rS_0 q2] at h3
        rw [← h3]
        by_cases q3 : r3.1 = 0
        · rw [sI_0 q3, if_pos q3]
        · rw [sI_n q3, if_neg q3]
      · rw [sI_n q2]
        rw [rS_n q2] at h3
        rw [h3, if_neg q2]
    · rw [sI_n q1]
      rw [rS_n q1] at h2
      rw [h2, rS_n q1] at h3
      rw [h3, if_neg q1]
  · have q2 : r2.1 = 0 := rS_1 (k := fun p => aS T n p 59) (by rw [← h3]; exact e)
    have q1 : r1.1 = 0 := rS_1 (k := fun p => aN T n p 5 60) (by rw [← h2]; exact q2)
    exact ⟨q1, q2⟩
theorem sOK_fi (e : (sdFi T n).1 = 0) : sOK n (sdFi T n).2.1 1 (sdFi T n).2.2 := by
  obtain ⟨r1, h1⟩ : ∃ r1, r1 = aW T n 0 0 := ⟨_, rfl⟩
  obtain ⟨r2, h2⟩ : ∃ r2, r2 = rS r1 (fun p => aN T n p 5 60) := ⟨_, rfl⟩
  obtain ⟨r3, h3⟩ : ∃ r3, r3 = rS r2 (fun p => aS T n p 59) := ⟨_, rfl⟩
  obtain ⟨ch, ok⟩ := sdFi_e h1 h2 h3
  rw [ch] at e ⊢
  by_cases q3 : r3.1 = 0
  · obtain ⟨q1, q2⟩ := ok q3
    rw [if_pos q3]
    have k1 := (aW_b (T := T) (n := n) (p := 0) (w := 0) (by omega)).1 (by rw [← h1]; exact q1)
    rw [← h1] at k1
    rw [rS_0 q1] at h2
    have k2 := (aN_b (T := T) (lo := 5) (hi := 60) k1.2.2.2).1 (by rw [← h2]; exact q2)
    rw [← h2] at k2
    rw [rS_0 q2] at h3
    have k3 := (aS_b (T := T) (c := 59) k2.2.2.2.2.2.2).1 (by rw [← h3]; exact q3)
    rw [← h3] at k3
    have tn := tN_w (T := T) (n := n) (p := 0) (w := 0) (by decide) k1.1
    have w5 : (WL 0).length = 5 := by decide
    have te : 5 ≤ tE T n 0 := by unfold tN at tn; omega
    refine ⟨⟨k2.2.2.1, k2.2.2.2.1, by show 0 ≤ 9; omega, by show 0 ≤ 100; omega, by show 0 ≤ 1; omega, by show 0 ≤ 6; omega, by show 0 ≤ 6; omega, by show 0 + 4 ≤ r3.2; omega, k3.2.2.2⟩, fun x hx => (by cases hx), fun y hy => (by cases hy), fun l hl => (by cases hl), fun m => by show 0 < 256; omega, fun f a l h => (by cases h)⟩
  · rw [if_neg q3] at e
    exact absurd e q3
theorem sdAll_ok (e : (sdAll T n).1 = 0) : 1 ≤ (sdAll T n).2.1 ∧ (sdAll T n).2.1 ≤ 80 ∧ ∃ p i, i ≤ 80 ∧ sOK n p i (sdAll T n).2.2 := by
  unfold sdAll at e ⊢
  by_cases q : (sdFi T n).1 = 0
  · rw [if_pos q] at e ⊢
    exact sdLo_ok 81 1 _ _ (by omega) (sOK_fi q) e
  · rw [if_neg q] at e
    exact absurd e q
theorem rx_302 (hx : st_Rx R) : st_Rx (am_up R 30 2 c) := by
  have hq : ∀ q k, ¬ (q = 30 ∧ k = 2) → am_up R 30 2 c q k = R q k := fun q k e => am_up_o e
  simp (disch := omega) only [st_Rx, hq, rX hx, and_self]
theorem rm_302 (hm : st_Rm R) : st_Rm (am_up R 30 2 c) := by
  have hq : ∀ q k, ¬ (q = 30 ∧ k = 2) → am_up R 30 2 c q k = R q k := fun q k e => am_up_o e
  simp (disch := omega) only [st_Rm, hq, rM hm, and_self]
theorem x_read (hx : st_Rx R) (hc : c = 10 ∨ c = 20) (hT : txX T n I R) (hS : scX T n 0 I) (h11 : I 5 11 = am_i (-1)) : ∃ (cnt : Nat) (I' : tI), am_E (d + 79) 90 0 [(0, .ref 30), (1, .ref c)] [] (I, J, R, 138) = some (some (.int (am_i cnt)), (I', J, am_up R 30 2 c, 138)) ∧ (sdAll T n).1 ≤ 9 ∧ ((sdAll T n).1 = 0 → cnt = (sdAll T n).2.1 ∧ I' 5 10 = am_i 0 ∧ I' 5 11 = am_i (-1) ∧ xHd c (sdAll T n).2.2 I' ∧ ∀ f, f < 3 → frX I' c f (fmX (sdAll T n).2.2 f)) ∧ ((sdAll T n).1 ≠ 0 → I' 5 10 = am_i (sdAll T n).1 ∧ I' 5 11 = am_i (sdAll T n).2.1) ∧ xF c I I' := by
  have hx1 := rx_302 (c := c) hx
  have n16 := hT.1
  obtain ⟨I1, a1, a2, a3, a4, a5, a6, a7⟩ := x_clear (d := d + 76) (J := J) (I := I) hx1 hc
  have a1' : am_E (d + 78) 4 0 [(0, .ref c)] [] (I, J, am_up R 30 2 c, 138) = _ := a1
  obtain ⟨K2, hK2⟩ : ∃ K2, K2 = am_up (am_up I1 8 2 (am_i 0)) 8 3 (am_i 0) := ⟨_, rfl⟩
  have cl : ∀ d, am_E (d + 1) 14 0 [(0, .ref 8)] [] (I1, J, am_up R 30 2 c, 138) = some (none, (K2, J, am_up R 30 2 c, 138)) := fun d => by
    rw [sg_X3_clear_0, hK2]
    simp (disch := first | assumption | omega) only [am_i_add, am_i_sub, am_i_mul, am_ok_i, am_i_cl, n_lt, n_le, n_eq, n_lt0, n_le0, n_0lt, n_0le, n_eq0, ne_eq, ↓reduceIte, not_true_eq_false, not_false_eq_true, and_true, true_and, and_false, false_and, eq_T, eq_F, lt_T, lt_F, le_T, le_F, qn_T, qn_F, and_F, b01_T, b01_F, e_isIn, Int32.toInt_toInt64, am_i_toInt, am_l_toInt, Int.toNat_natCast, Int.reduceToNat, Int.reduceAdd, Int.reduceSub, Int.reduceMul, Int.reduceNeg, Nat.reduceAdd, Nat.reduceMul, Nat.add_zero, Nat.mul_zero, Nat.zero_add, am_zb0, am_zb1, ly_cf, ↓Bool.cond_decide, cond_true, cond_false, ↓am_let_s, Bool.and_true, Bool.and_self]
  have k2 : ∀ q j, ¬ (c ≤ q ∧ q ≤ c + 9) → q ≠ 8 → K2 q j = I q j := fun q j e1 e2 => by rw [hK2, am_up_o (by omega), am_up_o (by omega), a7 q j e1]
  have kc : ∀ k j, k ≤ 9 → K2 (c + k) j = I1 (c + k) j := fun k j hk => by rw [hK2, am_up_o (by omega), am_up_o (by omega)]
  have kc0 : ∀ j, K2 c j = I1 c j := fun j => by rw [hK2, am_up_o (by omega), am_up_o (by omega)]
  have st0 : am_E (d + 79) 90 0 [(0, .ref 30), (1, .ref c)] [] (I, J, R, 138) = am_E (d + 79) 90 23 [(0, .ref 30), (2, .int (am_i 0)), (3, .int (am_i 0))] [] (K2, J, am_up R 30 2 c, 138) := by
    have u2 : am_up R 30 2 c 30 2 = c := am_up_e
    rw [sg_X10_read_0]
    simp (disch := first | assumption | omega) only [am_i_add, am_i_sub, am_i_mul, am_ok_i, am_i_cl, n_lt, n_le, n_eq, n_lt0, n_le0, n_0lt, n_0le, n_eq0, ne_eq, ↓reduceIte, not_true_eq_false, not_false_eq_true, and_true, true_and, and_false, false_and, eq_T, eq_F, lt_T, lt_F, le_T, le_F, qn_T, qn_F, and_F, b01_T, b01_F, e_isIn, Int32.toInt_toInt64, am_i_toInt, am_l_toInt, Int.toNat_natCast, Int.reduceToNat, Int.reduceAdd, Int.reduceSub, Int.reduceMul, Int.reduceNeg, Nat.reduceAdd, Nat.reduceMul, Nat.add_zero, Nat.mul_zero, Nat.zero_add, am_zb0, am_zb1, ly_cf, ↓Bool.cond_decide, cond_true, cond_false, ↓bI_p, ↓bV_p, bIJ_s, bVJ_s, ↓am_let_s, u2, rX hx1, rC hx1 hc, a1', cl]
  have h2 : am_up R 30 2 c 30 2 = c := am_up_e
  have T2 : txX T n K2 (am_up R 30 2 c) := by
    have := txX_c (I' := K2) hT (fun q k e => k2 q k (by omega) (by omega))
    exact ⟨this.1, this.2.1, this.2.2⟩
  have R0 : xR T n (0, 0) K2 := xR_c (I := I) ⟨fun _ => ⟨hS, by show 0 ≤ n; omega, h11⟩, fun e => absurd rfl e⟩ (fun j => k2 5 j (by omega) (by omega))
  obtain ⟨S2, -, e11⟩ := R0.1 rfl
  have S2' : scX T n 0 K2 := S2
  have h10 := S2'.2.2.2.2.1
  have X0 : xCh c sX0 K2 := by
    refine ⟨⟨?_, ?_, ?_, ?_, ?_, ?_⟩, fun b x hx => (by cases hx), ⟨fun b _ h => ?_, fun b hb => ?_⟩, fun r y hy => (by cases hy), fun m hm => ?_, fun f hf => ⟨fun _ => ?_, fun a l h => (by cases h)⟩, ?_⟩
    · rw [kc0]; exact a2 0 (by omega)
    · rw [kc0]; exact a2 1 (by omega)
    · rw [kc0]; exact a2 2 (by omega)
    · rw [kc0]; exact a2 3 (by omega)
    · rw [kc0]; exact a2 4 (by omega)
    · rw [kc0]; exact a2 5 (by omega)
    · rw [kc _ _ (by omega)]; exact a3 b h
    · rw [kc _ _ (by omega), kc _ _ (by omega)]; exact ⟨a4 _ (by omega), a4 _ (by omega)⟩
    · rw [kc _ _ (by omega)]; exact a5 m (by omega)
    · rw [kc _ _ (by omega), kc _ _ (by omega)]; exact a6 f hf
    · rw [hK2, am_up_o (by omega), am_up_e]; rfl
  have s82 : K2 8 2 = am_i (0 : Nat) := by rw [hK2, am_up_o (by omega), am_up_e]; rfl
  have s83 : K2 8 3 = am_i (0 : Nat) := by rw [hK2, am_up_e]; rfl
  have fr2 : xF c I K2 := fun q j e => k2 q j (by omega) (by omega)
  have ie := fun d => e_isEnd (d := d) (J := J) (R := am_up R 30 2 c) (vw_p T2 S2')
  obtain ⟨r1, hr1⟩ : ∃ r1, r1 = aW T n 0 0 := ⟨_, rfl⟩
  obtain ⟨r2, hr2⟩ : ∃ r2, r2 = rS r1 (fun p => aN T n p 5 60) := ⟨_, rfl⟩
  obtain ⟨r3, hr3⟩ : ∃ r3, r3 = rS r2 (fun p => aS T n p 59) := ⟨_, rfl⟩
  obtain ⟨ch, ok⟩ := sdFi_e hr1 hr2 hr3
  rw [st0]
  by_cases k0 : tK T n 0 = 0
  · -- nothing there
    have w0 : ¬ tW T n 0 = (0 : Nat) := fun e => by have := tW_1 e; omega
    have e1 : r1 = (1, tAt T n 0) := by rw [hr1]; unfold aW; rw [if_neg w0]
    have e2 : r2 = (1, tAt T n 0) := by rw [hr2, e1]; rfl
    have e3 : r3 = (1, tAt T n 0) := by rw [hr3, e2]; rfl
    have ea : sdAll T n = (1, tAt T n 0, sX0) := by
      unfold sdAll
      rw [ch, e3]
      rfl
    rw [ea]
    have fl := fun d => x_flH (d := d) (J := J) (R := am_up R 30 2 c) h10
    have e4 : K2 5 4 = am_i (tAt T n 0) := S2'.2.2.1
    rw [e4] at fl
    have x5 : xFt 1 (tAt T n 0) (am_up (am_up (am_up K2 5 10 (am_i 1)) 5 11 (am_i (tAt T n 0))) 5 5 (am_i 4)) := fl_x (e := 1)
    have o9 : ∀ q j, q ≠ 5 → am_up (am_up (am_up K2 5 10 (am_i 1)) 5 11 (am_i (tAt T n 0))) 5 5 (am_i 4) q j = K2 q j := fun q j e => fl_f e
    obtain ⟨I3, b1, b2, b3, b4⟩ := x_r138F (d := d + 75) (J := J) hx1 h2 hc (e := 1) (pl := tAt T n 0) ⟨x5, ⟨0, by omega, by rw [o9 _ _ (by omega)]; exact s82⟩, 0, by omega, by rw [o9 _ _ (by omega)]; exact s83⟩
    have b1' : ∀ v, am_E (d + 79) 90 157 [(0, .ref 30), (2, .int v)] [] (_, J, am_up R 30 2 c, 138) = _ := b1
    refine ⟨0, I3, ?_, by show 1 ≤ 9; omega, fun e => absurd e (by show ¬ ((1 : Nat) = 0); decide), fun _ => ⟨b2, b3⟩, fun q j e => by rw [b4 q j e, o9 q j (by omega), fr2 q j e]⟩
    rw [sg_X10_read_23]
    simp (disch := first | assumption | omega) only [am_i_add, am_i_sub, am_i_mul, am_ok_i, am_i_cl, n_lt, n_le, n_eq, n_lt0, n_le0, n_0lt, n_0le, n_eq0, ne_eq, ↓reduceIte, not_true_eq_false, not_false_eq_true, and_true, true_and, and_false, false_and, eq_T, eq_F, lt_T, lt_F, le_T, le_F, qn_T, qn_F, and_F, b01_T, b01_F, e_isIn, Int32.toInt_toInt64, am_i_toInt, am_l_toInt, Int.toNat_natCast, Int.reduceToNat, Int.reduceAdd, Int.reduceSub, Int.reduceMul, Int.reduceNeg, Nat.reduceAdd, Nat.reduceMul, Nat.add_zero, Nat.mul_zero, Nat.zero_add, am_zb0, am_zb1, ly_cf, ↓Bool.cond_decide, cond_true, cond_false, ↓bI_p, ↓bV_p, bIJ_s, bVJ_s, ↓am_let_s, rX hx1, ie, b01_t k0, sg_X10_read_146, fl]
    exact b1' _
  · obtain ⟨I3, b1, b2, b3⟩ := x_rW (d := d + 73) (J := J) hx1 T2 R0 (w := 0) (by decide)
    rw [rS_0 rfl] at b2
    have b2' : xR T n r1 I3 := by rw [hr1]; exact b2
    have b1' : am_E (d + 78) 86 0 [(0, .ref 5), (1, .int (am_i 0))] [] (K2, J, am_up R 30 2 c, 138) = _ := b1
    have T3 : txX T n I3 (am_up R 30 2 c) := txX_c T2 (fun q k e => b3 q k (by omega))
    obtain ⟨v, I4, c1, c2, c3, c4, c5⟩ := x_rN (d := d + 73) (J := J) hx1 T3 b2' (lo := 5) (hi := 60) (by omega) (by omega)
    rw [← hr2] at c2 c3 c4
    have c1' : am_E (d + 78) 87 0 [(0, .ref 5), (1, .int (am_i 5)), (2, .int (am_i 60))] [] (I3, J, am_up R 30 2 c, 138) = _ := c1
    obtain ⟨K5, hK5⟩ : ∃ K5, K5 = am_up I4 c 0 (am_i v) := ⟨_, rfl⟩
    have k5 : ∀ q j, q ≠ 5 → ¬ (q = c ∧ j = 0) → K5 q j = K2 q j := fun q j e1 e2 => by rw [hK5, am_up_o e2, c5 q j e1, b3 q j e1]
    have T5 : txX T n K5 (am_up R 30 2 c) := txX_c T2 (fun q k e => k5 q k (by omega) (by omega))
    have R5 : xR T n r2 K5 := xR_c c4 (fun j => by rw [hK5, am_up_o (by omega)])
    obtain ⟨I6, d1, d2, d3⟩ := x_rS (d := d + 73) (J := J) hx1 T5 R5 (c := 59) (by decide)
    rw [← hr3] at d2
    have d1' : am_E (d + 78) 85 0 [(0, .ref 5), (1, .int (am_i 59))] [] (K5, J, am_up R 30 2 c, 138) = _ := d1
    have o6 : ∀ q j, q ≠ 5 → ¬ (q = c ∧ j = 0) → I6 q j = K2 q j := fun q j e1 e2 => by rw [d3 q j e1, k5 q j e1 e2]
    have fr6 : xF c I I6 := fun q j e => by rw [o6 q j (by omega) (by omega), fr2 q j e]
    have step : am_E (d + 79) 90 23 [(0, .ref 30), (2, .int (am_i 0)), (3, .int (am_i 0))] [] (K2, J, am_up R 30 2 c, 138) = am_E (d + 79) 90 23 [(0, .ref 30), (2, .int (am_i 1)), (3, .int (am_i 1))] [] (I6, J, am_up R 30 2 c, 138) := by
      conv => lhs; rw [sg_X10_read_23]
      simp (disch := first | assumption | omega) only [am_i_add, am_i_sub, am_i_mul, am_ok_i, am_i_cl, n_lt, n_le, n_eq, n_lt0, n_le0, n_0lt, n_0le, n_eq0, ne_eq, ↓reduceIte, not_true_eq_false, not_false_eq_true, and_true, true_and, and_false, false_and, eq_T, eq_F, lt_T, lt_F, le_T, le_F, qn_T, qn_F, and_F, b01_T, b01_F, e_isIn, Int32.toInt_toInt64, am_i_toInt, am_l_toInt, Int.toNat_natCast, Int.reduceToNat, Int.reduceAdd, Int.reduceSub, Int.reduceMul, Int.reduceNeg, Nat.reduceAdd, Nat.reduceMul, Nat.add_zero, Nat.mul_zero, Nat.zero_add, am_zb0, am_zb1, ly_cf, ↓Bool.cond_decide, cond_true, cond_false, ↓bI_p, ↓bV_p, bIJ_s, bVJ_s, ↓am_let_s, rX hx1, h2, rC hx1 hc, ie, b01_f k0, h10, b1', c1', ← hK5, sg_X10_read_128, d1']
    rw [step]
    by_cases q3 : r3.1 = 0
    · obtain ⟨q1, q2⟩ := ok q3
      obtain ⟨t1, t2, t3⟩ := d2.1 q3
      have ef : sdFi T n = (0, r3.2, (tV T n r1.2, 0, 0, 0, 0, [], [], fun _ => 0, fun _ => none)) := by rw [ch, if_pos q3]
      have X6 : xCh c (tV T n r1.2, 0, 0, 0, 0, [], [], fun _ => 0, fun _ => none) I6 := by
        obtain ⟨⟨y0, y1, y2, y3, y4, y5⟩, -, ⟨z1, z2⟩, -, z3, z4, z5⟩ := X0
        have g : ∀ k j, 1 ≤ k → k ≤ 9 → I6 (c + k) j = K2 (c + k) j := fun k j hk hk2 => o6 _ _ (by omega) (by omega)
        refine ⟨⟨?_, ?_, ?_, ?_, ?_, ?_⟩, fun b x hx => (by cases hx), ⟨fun b h h' => ?_, fun b hb => ?_⟩, fun r y hy => (by cases hy), fun m hm => ?_, fun f hf => ⟨fun e => ?_, fun a l h => (by cases h)⟩, ?_⟩
        · rw [d3 _ _ (by omega), hK5, am_up_e, c2 q2]
          rfl
        · rw [o6 _ _ (by omega) (by omega)]; exact y1
        · rw [o6 _ _ (by omega) (by omega)]; exact y2
        · rw [o6 _ _ (by omega) (by omega)]; exact y3
        · rw [o6 _ _ (by omega) (by omega)]; exact y4
        · rw [o6 _ _ (by omega) (by omega)]; exact y5
        · rw [g _ _ (by omega) (by omega)]; exact z1 b h h'
        · rw [g _ _ (by omega) (by omega), g _ _ (by omega) (by omega)]; exact z2 b hb
        · rw [g _ _ (by omega) (by omega)]; exact z3 m hm
        · rw [g _ _ (by omega) (by omega), g _ _ (by omega) (by omega)]; exact (z4 f hf).1 rfl
        · rw [o6 _ _ (by omega) (by omega)]; exact z5
      have so := sOK_fi (T := T) (n := n) (by rw [ef])
      rw [ef] at so
      have xb : xB T n c r3.2 1 (tV T n r1.2, 0, 0, 0, 0, [], [], fun _ => 0, fun _ => none) I6 (am_up R 30 2 c) := ⟨n16, txX_c T5 (fun q k e => d3 q k (by omega)), t1, t3, X6, so, ⟨0, by omega, by rw [o6 _ _ (by omega) (by omega)]; exact s83⟩, h2, hc⟩
      obtain ⟨cnt, I7, g1, g2, g3, ⟨g4, g5, g6⟩, g7⟩ := x_r23 (d := d) (J := J) hx1 81 1 r3.2 _ I6 (by omega) (by omega) (by omega) xb
      have g1' : am_E (d + 79) 90 23 [(0, .ref 30), (2, .int (am_i 1)), (3, .int (am_i 1))] [] (I6, J, am_up R 30 2 c, 138) = _ := g1
      have ea : sdAll T n = sdLo T n 81 1 r3.2 (tV T n r1.2, 0, 0, 0, 0, [], [], fun _ => 0, fun _ => none) := by
        unfold sdAll
        rw [ef]
        rfl
      rw [g1']
      have aok := sdAll_ok (T := T) (n := n)
      rw [ea] at aok ⊢
      generalize sdLo T n 81 1 r3.2 (tV T n r1.2, 0, 0, 0, 0, [], [], fun _ => 0, fun _ => none) = rr at *
      by_cases q0 : rr.1 = 0
      · obtain ⟨w1, w2, w3, w4⟩ := g5 q0
        obtain ⟨-, -, p', i', -, so'⟩ := aok q0
        obtain ⟨I8, f1, f2, f3, f4⟩ := x_r138 (d := d + 75) (J := J) hx1 h2 hc w3 so' n16 g2 g3
        refine ⟨cnt, I8, f1, g4, fun _ => ⟨w4, by rw [f4 _ _ (by omega)]; exact w1, by rw [f4 _ _ (by omega)]; exact w2, f2, f3⟩, fun e => absurd q0 e, fun q j e => by rw [f4 q j (by omega), g7 q j e, fr6 q j e]⟩
      · obtain ⟨I8, f1, f2, f3, f4⟩ := x_r138F (d := d + 75) (J := J) hx1 h2 hc (g6 q0)
        have f1' : ∀ v, am_E (d + 79) 90 157 [(0, .ref 30), (2, .int v)] [] (I7, J, am_up R 30 2 c, 138) = _ := f1
        refine ⟨cnt, I8, ?_, g4, fun e => absurd e q0, fun _ => ⟨f2, f3⟩, fun q j e => by rw [f4 q j e, g7 q j e, fr6 q j e]⟩
        rw [sg_X10_read_146]
        simp (disch := first | assumption | omega) only [am_i_add, am_i_sub, am_i_mul, am_ok_i, am_i_cl, n_lt, n_le, n_eq, n_lt0, n_le0, n_0lt, n_0le, n_eq0, ne_eq, ↓reduceIte, not_true_eq_false, not_false_eq_true, and_true, true_and, and_false, false_and, eq_T, eq_F, lt_T, lt_F, le_T, le_F, qn_T, qn_F, and_F, b01_T, b01_F, e_isIn, Int32.toInt_toInt64, am_i_toInt, am_l_toInt, Int.toNat_natCast, Int.reduceToNat, Int.reduceAdd, Int.reduceSub, Int.reduceMul, Int.reduceNeg, Nat.reduceAdd, Nat.reduceMul, Nat.add_zero, Nat.mul_zero, Nat.zero_add, am_zb0, am_zb1, ↓Bool.cond_decide, cond_true, cond_false]
        exact f1' _
    · obtain ⟨t1, t2⟩ := d2.2 q3
      have ef : sdFi T n = (r3.1, r3.2, sX0) := by rw [ch, if_neg q3]
      have ea : sdAll T n = (r3.1, r3.2, sX0) := by
        unfold sdAll
        rw [ef, if_neg q3]
      rw [ea]
      have ie2 := fun d => e_isEnd (d := d) (J := J) (R := am_up R 30 2 c) (vw_F t1)
      have f10' : (I6 5 10 = 0) = False := eq_false (by
        rw [t1.2.1]
        intro z
        have z' : am_i (r3.1 : Int) = am_i 0 := z
        rw [n_eq (by omega) (by omega) (by omega) (by omega)] at z'
        omega)
      obtain ⟨I8, f1, f2, f3, f4⟩ := x_r138F (d := d + 75) (J := J) hx1 h2 hc (e := r3.1) (pl := r3.2) (I := I6) ⟨t1, ⟨0, by omega, by rw [o6 _ _ (by omega) (by omega)]; exact s82⟩, 0, by omega, by rw [o6 _ _ (by omega) (by omega)]; exact s83⟩
      have f1' : ∀ v, am_E (d + 79) 90 157 [(0, .ref 30), (2, .int v)] [] (I6, J, am_up R 30 2 c, 138) = _ := f1
      refine ⟨1, I8, ?_, t2, fun e => absurd e q3, fun _ => ⟨f2, f3⟩, fun q j e => by rw [f4 q j e, fr6 q j e]⟩
      rw [sg_X10_read_23]
      simp (disch := first | assumption | omega) only [am_i_add, am_i_sub, am_i_mul, am_ok_i, am_i_cl, n_lt, n_le, n_eq, n_lt0, n_le0, n_0lt, n_0le, n_eq0, ne_eq, ↓reduceIte, not_true_eq_false, not_false_eq_true, and_true, true_and, and_false, false_and, eq_T, eq_F, lt_T, lt_F, le_T, le_F, qn_T, qn_F, and_F, b01_T, b01_F, e_isIn, Int32.toInt_toInt64, am_i_toInt, am_l_toInt, Int.toNat_natCast, Int.reduceToNat, Int.reduceAdd, Int.reduceSub, Int.reduceMul, Int.reduceNeg, Nat.reduceAdd, Nat.reduceMul, Nat.add_zero, Nat.mul_zero, Nat.zero_add, am_zb0, am_zb1, ly_cf, ↓Bool.cond_decide, cond_true, cond_false, ↓bI_p, ↓bV_p, bIJ_s, bVJ_s, ↓am_let_s, rX hx1, ie2, b01_f (show ¬ (4 = 0) by decide), f10', sg_X10_read_146]
      exact f1' _
end XRE2
