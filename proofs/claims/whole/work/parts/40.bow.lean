/-! ===== the class's hull ===== -/
theorem rH {R : tR} {o : Nat} (h : st_Rx R) (ho : o = 35 ∨ o = 42) : am_cf 138 o 5 = true ∧ am_cf 138 (o + 1) 6 = true ∧ R o 0 = o + 1 ∧ R o 8 = o + 6 ∧ R (o + 1) 0 = o + 2 ∧ (∀ i, am_cs R 138 (o + 6) i = am_ok i 6) ∧ (∀ i, am_ca 138 (o + 6) 1 i = am_ok i 6) ∧ (∀ i, am_ca 138 (o + 2) 1 i = am_ok i 26) := by
  rcases ho with rfl | rfl <;> simp only [rX h, ly_cf, ly_csx, ly_cax, Nat.reduceAdd, implies_true, and_self]
def cxX (c last wd : Nat) (wf : Nat → Nat) (fm : Nat → List tok) (I : tI) : Prop := I c 0 = am_i last ∧ last ≤ 60 ∧ I c 4 = am_i wd ∧ wd ≤ 9 ∧ (∀ m, m ≤ 60 → wf m < 256 ∧ I (c + 6) m = am_i (wf m)) ∧ ∀ f, f < 3 → frX I c f (fm f) ∧ frT false (f == 2) (fm f)
theorem cxX_c {c last wd : Nat} {wf : Nat → Nat} {fm : Nat → List tok} {I I' : tI} (hc : c = 10 ∨ c = 20) (h : ∀ q k, 10 ≤ q → q ≤ 29 → I' q k = I q k) (hX : cxX c last wd wf fm I) : cxX c last wd wf fm I' := by
  obtain ⟨k1, k2, k3, k4, k5, k6⟩ := hX
  refine ⟨by rw [h c 0 (by omega) (by omega)]; exact k1, k2, by rw [h c 4 (by omega) (by omega)]; exact k3, k4, fun m hm => ⟨(k5 m hm).1, by rw [h _ _ (by omega) (by omega)]; exact (k5 m hm).2⟩, fun f hf => ⟨?_, (k6 f hf).2⟩⟩
  obtain ⟨a, a1, a2, a3, a4⟩ := (k6 f hf).1
  exact ⟨a, a1, by rw [h _ _ (by omega) (by omega)]; exact a2, by rw [h _ _ (by omega) (by omega)]; exact a3, fun k t e => by rw [h _ _ (by omega) (by omega)]; exact a4 k t e⟩
def hullR (o : Nat) (I : tI) (n : Nat) (s : bt) : Prop := I o 2 = am_i s.mi ∧ I o 3 = am_i s.ti ∧ I o 4 = am_i s.ro ∧ I o 5 = am_i s.su ∧ I o 6 = am_i s.pl ∧ I o 7 = am_i n ∧ ∀ k, k < n → I (o + 6) k = am_i (s.sc k)
def hS (o q _k : Nat) : Bool := Nat.ble o q && Nat.ble q (o + 6)
def vS (o q k : Nat) : Bool := (q == o + 1 && k == 5) || q == o + 2 || q == o + 5
def tS (o q k : Nat) : Bool := vS o q k || (q == o && (k == 3 || k == 4))
theorem hS_f {o q k : Nat} : hS o q k = false ↔ ¬ (o ≤ q ∧ q ≤ o + 6) := by
  unfold hS
  rw [Bool.and_eq_false_iff, ← Bool.not_eq_true, ← Bool.not_eq_true, Nat.ble_eq, Nat.ble_eq]
  omega
theorem vS_f {o q k : Nat} (h : ¬ (q = o + 1 ∧ k = 5)) (h2 : q ≠ o + 2) (h5 : q ≠ o + 5) : vS o q k = false := by
  unfold vS
  simp
  omega
theorem vS_n {o q k : Nat} (h : vS o q k = false) : ¬ (q = o + 1 ∧ k = 5) ∧ q ≠ o + 2 ∧ q ≠ o + 5 := by
  unfold vS at h
  simp at h
  omega
theorem tS_f {o q k : Nat} (h : ¬ (q = o + 1 ∧ k = 5)) (h2 : q ≠ o + 2) (h5 : q ≠ o + 5) (h6 : ¬ (q = o ∧ (k = 3 ∨ k = 4))) : tS o q k = false := by
  unfold tS
  rw [vS_f h h2 h5]
  simp
  omega
theorem tS_n {o q k : Nat} (h : tS o q k = false) : vS o q k = false ∧ ¬ (q = o ∧ (k = 3 ∨ k = 4)) := by
  unfold tS at h
  simp at h
  exact ⟨h.1, by omega⟩
def shI (I : tI) (o : Nat) (v u : Int32) : tI := am_up (am_up (am_up (am_up (am_up I (o + 2) 14 v) (o + 2) 3 (I o 3)) (o + 2) 4 (I o 4)) (o + 2) 15 (I o 2)) (o + 2) 12 u
theorem shI_o {I : tI} {o : Nat} {v u : Int32} {q k : Nat} (h : ¬ q = o + 2) : shI I o v u q k = I q k := by
  unfold shI
  rw [am_up_o (fun e => h e.1), am_up_o (fun e => h e.1), am_up_o (fun e => h e.1), am_up_o (fun e => h e.1), am_up_o (fun e => h e.1)]
theorem shI_e {I : tI} {o v ti ro mi u : Nat} {wt : Int} (h3 : I o 3 = am_i ti) (h4 : I o 4 = am_i ro) (h2 : I o 2 = am_i mi) {w : Nat} (hw : w = 14 ∨ w = 3 ∨ w = 4 ∨ w = 15 ∨ w = 12) : shI I o (am_i v) (am_i u) (o + 2) w = am_i (enS v ti ro mi u wt w) := by
  unfold shI
  rcases hw with rfl | rfl | rfl | rfl | rfl
  · rw [am_up_o (by omega), am_up_o (by omega), am_up_o (by omega), am_up_o (by omega), am_up_e]; rfl
  · rw [am_up_o (by omega), am_up_o (by omega), am_up_o (by omega), am_up_e, h3]; rfl
  · rw [am_up_o (by omega), am_up_o (by omega), am_up_e, h4]; rfl
  · rw [am_up_o (by omega), am_up_e, h2]; rfl
  · rw [am_up_e]; rfl
def clI (a b v : Int32) : Int32 := if a < (if v < b then v else b) then (if v < b then v else b) else a
theorem clI_p (a b v : Int32) : (if a < (if v < b then v else b) then (if v < b then v else b) else a) = clI a b v := rfl
theorem clI_i {a b v : Int} (ha : -2147483648 ≤ a) (hab : a ≤ b) (hb : b < 2147483648) (hv : -2147483648 ≤ v) (hv2 : v < 2147483648) : clI (am_i a) (am_i b) (am_i v) = am_i (clZ a b v) := by
  unfold clI clZ
  by_cases q : v < a
  · simp (disch := first | assumption | omega) only [am_i_add, am_i_sub, am_i_mul, am_ok_i, am_i_cl, n_lt, n_le, n_eq, n_lt0, n_le0, n_0lt, n_0le, n_eq0, ne_eq, ↓reduceIte, not_true_eq_false, not_false_eq_true, and_true, true_and, and_false, false_and, eq_T, eq_F, lt_T, lt_F, le_T, le_F, qn_T, qn_F, and_F, b01_T, b01_F, e_isIn, Int32.toInt_toInt64, am_i_toInt, am_l_toInt, Int.toNat_natCast, Int.reduceToNat, Int.reduceAdd, Int.reduceSub, Int.reduceMul, Int.reduceNeg, Nat.reduceAdd, Nat.reduceMul, Nat.add_zero, Nat.mul_zero, Nat.zero_add, am_zb0, am_zb1]
  · by_cases q2 : b < v
    · by_cases q3 : a = b
      · simp (disch := first | assumption | omega) only [am_i_add, am_i_sub, am_i_mul, am_ok_i, am_i_cl, n_lt, n_le, n_eq, n_lt0, n_le0, n_0lt, n_0le, n_eq0, ne_eq, ↓reduceIte, not_true_eq_false, not_false_eq_true, and_true, true_and, and_false, false_and, eq_T, eq_F, lt_T, lt_F, le_T, le_F, qn_T, qn_F, and_F, b01_T, b01_F, e_isIn, Int32.toInt_toInt64, am_i_toInt, am_l_toInt, Int.toNat_natCast, Int.reduceToNat, Int.reduceAdd, Int.reduceSub, Int.reduceMul, Int.reduceNeg, Nat.reduceAdd, Nat.reduceMul, Nat.add_zero, Nat.mul_zero, Nat.zero_add, am_zb0, am_zb1, q3]
      · simp (disch := first | assumption | omega) only [am_i_add, am_i_sub, am_i_mul, am_ok_i, am_i_cl, n_lt, n_le, n_eq, n_lt0, n_le0, n_0lt, n_0le, n_eq0, ne_eq, ↓reduceIte, not_true_eq_false, not_false_eq_true, and_true, true_and, and_false, false_and, eq_T, eq_F, lt_T, lt_F, le_T, le_F, qn_T, qn_F, and_F, b01_T, b01_F, e_isIn, Int32.toInt_toInt64, am_i_toInt, am_l_toInt, Int.toNat_natCast, Int.reduceToNat, Int.reduceAdd, Int.reduceSub, Int.reduceMul, Int.reduceNeg, Nat.reduceAdd, Nat.reduceMul, Nat.add_zero, Nat.mul_zero, Nat.zero_add, am_zb0, am_zb1]
    · by_cases q3 : b = v
      · by_cases q4 : a = b
        · simp (disch := first | assumption | omega) only [am_i_add, am_i_sub, am_i_mul, am_ok_i, am_i_cl, n_lt, n_le, n_eq, n_lt0, n_le0, n_0lt, n_0le, n_eq0, ne_eq, ↓reduceIte, not_true_eq_false, not_false_eq_true, and_true, true_and, and_false, false_and, eq_T, eq_F, lt_T, lt_F, le_T, le_F, qn_T, qn_F, and_F, b01_T, b01_F, e_isIn, Int32.toInt_toInt64, am_i_toInt, am_l_toInt, Int.toNat_natCast, Int.reduceToNat, Int.reduceAdd, Int.reduceSub, Int.reduceMul, Int.reduceNeg, Nat.reduceAdd, Nat.reduceMul, Nat.add_zero, Nat.mul_zero, Nat.zero_add, am_zb0, am_zb1, q4, q3]
        · simp (disch := first | assumption | omega) only [am_i_add, am_i_sub, am_i_mul, am_ok_i, am_i_cl, n_lt, n_le, n_eq, n_lt0, n_le0, n_0lt, n_0le, n_eq0, ne_eq, ↓reduceIte, not_true_eq_false, not_false_eq_true, and_true, true_and, and_false, false_and, eq_T, eq_F, lt_T, lt_F, le_T, le_F, qn_T, qn_F, and_F, b01_T, b01_F, e_isIn, Int32.toInt_toInt64, am_i_toInt, am_l_toInt, Int.toNat_natCast, Int.reduceToNat, Int.reduceAdd, Int.reduceSub, Int.reduceMul, Int.reduceNeg, Nat.reduceAdd, Nat.reduceMul, Nat.add_zero, Nat.mul_zero, Nat.zero_add, am_zb0, am_zb1, q3]
      · by_cases q4 : a = v
        · simp (disch := first | assumption | omega) only [am_i_add, am_i_sub, am_i_mul, am_ok_i, am_i_cl, n_lt, n_le, n_eq, n_lt0, n_le0, n_0lt, n_0le, n_eq0, ne_eq, ↓reduceIte, not_true_eq_false, not_false_eq_true, and_true, true_and, and_false, false_and, eq_T, eq_F, lt_T, lt_F, le_T, le_F, qn_T, qn_F, and_F, b01_T, b01_F, e_isIn, Int32.toInt_toInt64, am_i_toInt, am_l_toInt, Int.toNat_natCast, Int.reduceToNat, Int.reduceAdd, Int.reduceSub, Int.reduceMul, Int.reduceNeg, Nat.reduceAdd, Nat.reduceMul, Nat.add_zero, Nat.mul_zero, Nat.zero_add, am_zb0, am_zb1, q4]
        · simp (disch := first | assumption | omega) only [am_i_add, am_i_sub, am_i_mul, am_ok_i, am_i_cl, n_lt, n_le, n_eq, n_lt0, n_le0, n_0lt, n_0le, n_eq0, ne_eq, ↓reduceIte, not_true_eq_false, not_false_eq_true, and_true, true_and, and_false, false_and, eq_T, eq_F, lt_T, lt_F, le_T, le_F, qn_T, qn_F, and_F, b01_T, b01_F, e_isIn, Int32.toInt_toInt64, am_i_toInt, am_l_toInt, Int.toNat_natCast, Int.reduceToNat, Int.reduceAdd, Int.reduceSub, Int.reduceMul, Int.reduceNeg, Nat.reduceAdd, Nat.reduceMul, Nat.add_zero, Nat.mul_zero, Nat.zero_add, am_zb0, am_zb1]
section HULL
variable {d : Nat} {I : tI} {J : tJ} {R : tR} {o c last wd n : Nat} {wf : Nat → Nat} {fm : Nat → List tok} {s : bt} {v u : Nat}
theorem x_show (hx : st_Rx R) (ho : o = 35 ∨ o = 42) {v u : Int32} : am_E (d + 1) 42 0 [(0, .ref o), (1, .int v), (2, .int u)] [] (I, J, R, 138) = some (none, (shI I o v u, J, R, 138)) := by
  rw [sg_X5_show_0]
  simp (disch := first | assumption | omega) only [am_i_add, am_i_sub, am_i_mul, am_ok_i, am_i_cl, n_lt, n_le, n_eq, n_lt0, n_le0, n_0lt, n_0le, n_eq0, ne_eq, ↓reduceIte, not_true_eq_false, not_false_eq_true, and_true, true_and, and_false, false_and, eq_T, eq_F, lt_T, lt_F, le_T, le_F, qn_T, qn_F, and_F, b01_T, b01_F, e_isIn, Int32.toInt_toInt64, am_i_toInt, am_l_toInt, Int.toNat_natCast, Int.reduceToNat, Int.reduceAdd, Int.reduceSub, Int.reduceMul, Int.reduceNeg, Nat.reduceAdd, Nat.reduceMul, Nat.add_zero, Nat.mul_zero, Nat.zero_add, am_zb0, am_zb1, ↓Bool.cond_decide, cond_true, cond_false, ↓am_let_s, rH hx ho, am_up_o]
  rfl
theorem x_run0 {f : Nat} {en : Nat → Int} (hx : st_Rx R) (ho : o = 35 ∨ o = 42) (hc : c = 10 ∨ c = 20) (hX : cxX c last wd wf fm I) (hf : f < 3) (hb : ∀ w, -1000000 ≤ en w ∧ en w ≤ 1000000) (hv : ∀ w, wdOK false (f == 2) w → w < 26 ∧ I (o + 2) w = am_i (en w)) : Wp (fun r M => ∃ I', r = some (.int (am_i (vl en e0 (fm f)))) ∧ M = (I', J, R, 138) ∧ fr (mcS (o + 1)) I I') (am_E (d + 3) 49 0 [(0, .ref (o + 1)), (1, .ref (c + 7)), (2, .int (I (c + 8) f)), (3, .int (I (c + 9) f))] [] (I, J, R, 138)) := by
  obtain ⟨⟨a, a1, a2, a3, a4⟩, hT⟩ := hX.2.2.2.2.2 f hf
  have hv1 := (vl_ok hT hb).2.2
  obtain ⟨⟨b, hOK⟩, hW⟩ := hT
  have e1 : (if am_i 0 < am_i (a : Int) then am_i (a : Int) else am_i 0) = am_i a := by
    by_cases q : a = 0
    · subst q; rfl
    · simp (disch := first | assumption | omega) only [am_i_add, am_i_sub, am_i_mul, am_ok_i, am_i_cl, n_lt, n_le, n_eq, n_lt0, n_le0, n_0lt, n_0le, n_eq0, ne_eq, ↓reduceIte, not_true_eq_false, not_false_eq_true, and_true, true_and, and_false, false_and, eq_T, eq_F, lt_T, lt_F, le_T, le_F, qn_T, qn_F, and_F, b01_T, b01_F, e_isIn, Int32.toInt_toInt64, am_i_toInt, am_l_toInt, Int.toNat_natCast, Int.reduceToNat, Int.reduceAdd, Int.reduceSub, Int.reduceMul, Int.reduceNeg, Nat.reduceAdd, Nat.reduceMul, Nat.add_zero, Nat.mul_zero, Nat.zero_add, am_zb0, am_zb1]
  have hf0 : fr (mcS (o + 1)) I (am_up I (o + 1) 5 (am_i 0)) := fun q k h => by
    have := mcS_f h
    rw [am_up_o this.1]
  obtain ⟨v, g1, g2, I', g3, g4⟩ := x_loop (d := d) (J := J) (R := R) (m := o + 1) (cc := c + 7) (e := a + (fm f).length) (en := en) (e1 := e0) (q := false) (sw := f == 2) (b := b) (I0 := I) hx (by omega) (by omega) a1 (fun w hw => ⟨(hb w).1, (hb w).2, hv w hw⟩) (fun h => by cases h) (fm f) a [] [] (am_up I (o + 1) 5 (am_i 0)) hOK hW (by decide) trivial hf0 trivial am_up_e rfl a4
  rw [hv1] at g1
  have hv2 : vl en e0 (fm f) = v := by injection g1
  rw [a2, a3, sg_X6_run_0, hv2]
  refine ⟨_, _, ?_, I', rfl, rfl, g4⟩
  simp (disch := first | assumption | omega) only [am_i_add, am_i_sub, am_i_mul, am_ok_i, am_i_cl, n_lt, n_le, n_eq, n_lt0, n_le0, n_0lt, n_0le, n_eq0, ne_eq, ↓reduceIte, not_true_eq_false, not_false_eq_true, and_true, true_and, and_false, false_and, eq_T, eq_F, lt_T, lt_F, le_T, le_F, qn_T, qn_F, and_F, b01_T, b01_F, e_isIn, Int32.toInt_toInt64, am_i_toInt, am_l_toInt, Int.toNat_natCast, Int.reduceToNat, Int.reduceAdd, Int.reduceSub, Int.reduceMul, Int.reduceNeg, Nat.reduceAdd, Nat.reduceMul, Nat.add_zero, Nat.mul_zero, Nat.zero_add, am_zb0, am_zb1, ↓Bool.cond_decide, cond_true, cond_false, ↓am_let_s, rH hx ho, ↓e1]
  exact g3
theorem x_reach (hx : st_Rx R) (ho : o = 35 ∨ o = 42) (hc : c = 10 ∨ c = 20) (hR : R o 1 = c) (hX : cxX c last wd wf fm I) (hm : s.mi ≤ last) (ht : s.ti ≤ 99) (hr : s.ro ≤ 99) (h2 : I o 2 = am_i s.mi) (h3 : I o 3 = am_i s.ti) (h4 : I o 4 = am_i s.ro) (hv : v < 8) (hu : u ≤ 9) : Wp (fun r M => ∃ I', r = some (.int (am_i (rcS wf fm s v u))) ∧ M = (I', J, R, 138) ∧ fr (vS o) I I') (am_E (d + 4) 43 0 [(0, .ref o), (1, .int (am_i v)), (2, .int (am_i u))] [] (I, J, R, 138)) := by
  have hl := hX.2.1
  obtain ⟨w1, w2⟩ := hX.2.2.2.2.1 s.mi (by omega)
  have w3 := fun d => e_isWolf (d := d) (I := I) (J := J) hx hc (by omega) hv w1 w2
  have w4 : wf s.mi / 2 ^ v % 2 < 2 := Nat.mod_lt _ (by decide)
  rw [sg_X5_reach_0]
  by_cases q : wf s.mi / 2 ^ v % 2 = 1
  · simp (disch := first | assumption | omega) only [am_i_add, am_i_sub, am_i_mul, am_ok_i, am_i_cl, n_lt, n_le, n_eq, n_lt0, n_le0, n_0lt, n_0le, n_eq0, ne_eq, ↓reduceIte, not_true_eq_false, not_false_eq_true, and_true, true_and, and_false, false_and, eq_T, eq_F, lt_T, lt_F, le_T, le_F, qn_T, qn_F, and_F, b01_T, b01_F, e_isIn, Int32.toInt_toInt64, am_i_toInt, am_l_toInt, Int.toNat_natCast, Int.reduceToNat, Int.reduceAdd, Int.reduceSub, Int.reduceMul, Int.reduceNeg, Nat.reduceAdd, Nat.reduceMul, Nat.add_zero, Nat.mul_zero, Nat.zero_add, am_zb0, am_zb1, rC hx hc, ↓Bool.cond_decide, cond_true, cond_false, ↓bI_p, bIJ_s, rH hx ho, hR, h2, w3, q]
    exact Wp_r ⟨I, by unfold rcS; rw [if_pos q], rfl, fr_r _ _⟩
  · have q0 : wf s.mi / 2 ^ v % 2 = 0 := by omega
    have hX' : cxX c last wd wf fm (shI I o (am_i v) (am_i u)) := cxX_c hc (fun q k h1 h2 => shI_o (by omega)) hX
    have s8 : shI I o (am_i v) (am_i u) (c + 8) 0 = shI I o (am_i v) (am_i u) (c + 8) 0 := rfl
    simp (disch := first | assumption | omega) only [am_i_add, am_i_sub, am_i_mul, am_ok_i, am_i_cl, n_lt, n_le, n_eq, n_lt0, n_le0, n_0lt, n_0le, n_eq0, ne_eq, ↓reduceIte, not_true_eq_false, not_false_eq_true, and_true, true_and, and_false, false_and, eq_T, eq_F, lt_T, lt_F, le_T, le_F, qn_T, qn_F, and_F, b01_T, b01_F, e_isIn, Int32.toInt_toInt64, am_i_toInt, am_l_toInt, Int.toNat_natCast, Int.reduceToNat, Int.reduceAdd, Int.reduceSub, Int.reduceMul, Int.reduceNeg, Nat.reduceAdd, Nat.reduceMul, Nat.add_zero, Nat.mul_zero, Nat.zero_add, am_zb0, am_zb1, rC hx hc, ↓Bool.cond_decide, cond_true, cond_false, ↓bI_p, bIJ_s, ↓bV_p, bVJ_s, rH hx ho, hR, h2, w3, q0, x_show hx ho, ↓clI_p]
    refine Wp_I (x_run0 (f := 0) (en := enS v s.ti s.ro s.mi u 0) hx ho hc hX' (by decide) (enS_b (by omega) ht hr (by omega) hu (by omega) (by omega)) (fun w hw => ?_)) ?_
    · have hw' : w = 14 ∨ w = 3 ∨ w = 4 ∨ w = 15 ∨ w = 12 := by
        rcases hw with h | h | h | h | h | h | h
        · exact Or.inl h
        · exact Or.inr (Or.inl h)
        · exact Or.inr (Or.inr (Or.inl h))
        · exact Or.inr (Or.inr (Or.inr (Or.inl h)))
        · exact Or.inr (Or.inr (Or.inr (Or.inr h)))
        · cases h.1
        · cases h.1
      exact ⟨by omega, shI_e h3 h4 h2 hw'⟩
    · rintro _ _ ⟨I', rfl, rfl, hf⟩
      have vb := vl_ok (hX.2.2.2.2.2 0 (by decide)).2 (enS_b (v := v) (u := u) (wt := 0) (by omega) ht hr (show s.mi ≤ 60 by omega) hu (by omega) (by omega))
      refine ⟨_, rfl, Wp_r ⟨I', ?_, rfl, fun q k h => ?_⟩⟩
      · rw [clI_i (by omega) (by omega) (by omega) (by omega) (by omega)]
        unfold rcS
        rw [if_neg q]
      · have h' := vS_n h
        rw [hf q k (by unfold mcS; simp; omega), shI_o h'.2.1]
/-- the end of a bowing: how tight, how much rosin -/
theorem x_tail {en : Nat → Int} {ro : Nat} (hx : st_Rx R) (ho : o = 35 ∨ o = 42) (hc : c = 10 ∨ c = 20) (hR : R o 1 = c) (hX : cxX c last wd wf fm I) (hb : ∀ w, -1000000 ≤ en w ∧ en w ≤ 1000000) (hv : ∀ w, wdOK false true w → w < 26 ∧ I (o + 2) w = am_i (en w)) (hr : ro ≤ 99) (h4 : I o 4 = am_i ro) : Wp (fun r M => ∃ I', r = none ∧ M = (I', J, R, 138) ∧ fr (tS o) I I' ∧ I' o 3 = am_i ((clZ 0 99 (vl en e0 (fm 1))).toNat : Nat) ∧ I' o 4 = am_i (ro - 1 : Nat)) (am_E (d + 4) 44 104 [(0, .ref o)] [] (I, J, R, 138)) := by
  have hv' : ∀ w, wdOK false ((1 : Nat) == 2) w → w < 26 ∧ I (o + 2) w = am_i (en w) := fun w hw => hv w (by
    rcases hw with h | h | h | h | h | h | h
    · exact Or.inl h
    · exact Or.inr (Or.inl h)
    · exact Or.inr (Or.inr (Or.inl h))
    · exact Or.inr (Or.inr (Or.inr (Or.inl h)))
    · exact Or.inr (Or.inr (Or.inr (Or.inr (Or.inl h))))
    · cases h.1
    · cases h.1)
  have vb := vl_ok (hX.2.2.2.2.2 1 (by decide)).2 hb
  have cb := clZ_b (a := 0) (b := 99) (v := vl en e0 (fm 1)) (by omega)
  rw [sg_X5_bow_104]
  simp (disch := first | assumption | omega) only [am_i_add, am_i_sub, am_i_mul, am_ok_i, am_i_cl, n_lt, n_le, n_eq, n_lt0, n_le0, n_0lt, n_0le, n_eq0, ne_eq, ↓reduceIte, not_true_eq_false, not_false_eq_true, and_true, true_and, and_false, false_and, eq_T, eq_F, lt_T, lt_F, le_T, le_F, qn_T, qn_F, and_F, b01_T, b01_F, e_isIn, Int32.toInt_toInt64, am_i_toInt, am_l_toInt, Int.toNat_natCast, Int.reduceToNat, Int.reduceAdd, Int.reduceSub, Int.reduceMul, Int.reduceNeg, Nat.reduceAdd, Nat.reduceMul, Nat.add_zero, Nat.mul_zero, Nat.zero_add, am_zb0, am_zb1, rC hx hc, ↓Bool.cond_decide, cond_true, cond_false, ↓bI_p, bIJ_s, rH hx ho, hR, ↓clI_p]
  refine Wp_I (x_run0 (f := 1) (en := en) hx ho hc hX (by decide) hb hv') ?_
  rintro _ _ ⟨I', rfl, rfl, hf⟩
  refine ⟨_, rfl, ?_⟩
  have f4 : I' o 4 = am_i ro := by rw [hf o 4 (by unfold mcS; simp; omega)]; exact h4
  have e1 : am_i (clZ 0 99 (vl en e0 (fm 1))) = am_i (((clZ 0 99 (vl en e0 (fm 1))).toNat : Nat) : Int) := by congr 1; omega
  by_cases q : ro = 0
  · simp (disch := first | assumption | omega) only [am_i_add, am_i_sub, am_i_mul, am_ok_i, am_i_cl, n_lt, n_le, n_eq, n_lt0, n_le0, n_0lt, n_0le, n_eq0, ne_eq, ↓reduceIte, not_true_eq_false, not_false_eq_true, and_true, true_and, and_false, false_and, eq_T, eq_F, lt_T, lt_F, le_T, le_F, qn_T, qn_F, and_F, b01_T, b01_F, e_isIn, Int32.toInt_toInt64, am_i_toInt, am_l_toInt, Int.toNat_natCast, Int.reduceToNat, Int.reduceAdd, Int.reduceSub, Int.reduceMul, Int.reduceNeg, Nat.reduceAdd, Nat.reduceMul, Nat.add_zero, Nat.mul_zero, Nat.zero_add, am_zb0, am_zb1, ↓Bool.cond_decide, cond_true, cond_false, ↓am_let_s, rH hx ho, clI_i, e1, am_up_o, f4, sg_X5_bow_170]
    refine Wp_r ⟨_, rfl, rfl, fun q k h => ?_, am_up_e, ?_⟩
    · have h' := tS_n h
      have h'' := vS_n h'.1
      rw [am_up_o (by omega), hf q k (by unfold mcS; simp; omega)]
    · rw [am_up_o (by omega), f4, q]
  · have e2 : am_i ((ro : Int) - 1) = am_i ((ro - 1 : Nat) : Int) := by congr 1; omega
    simp (disch := first | assumption | omega) only [am_i_add, am_i_sub, am_i_mul, am_ok_i, am_i_cl, n_lt, n_le, n_eq, n_lt0, n_le0, n_0lt, n_0le, n_eq0, ne_eq, ↓reduceIte, not_true_eq_false, not_false_eq_true, and_true, true_and, and_false, false_and, eq_T, eq_F, lt_T, lt_F, le_T, le_F, qn_T, qn_F, and_F, b01_T, b01_F, e_isIn, Int32.toInt_toInt64, am_i_toInt, am_l_toInt, Int.toNat_natCast, Int.reduceToNat, Int.reduceAdd, Int.reduceSub, Int.reduceMul, Int.reduceNeg, Nat.reduceAdd, Nat.reduceMul, Nat.add_zero, Nat.mul_zero, Nat.zero_add, am_zb0, am_zb1, ↓Bool.cond_decide, cond_true, cond_false, ↓am_let_s, rH hx ho, clI_i, e1, am_up_o, f4, e2, sg_X5_bow_170]
    refine Wp_r ⟨_, rfl, rfl, fun q k h => ?_, ?_, am_up_e⟩
    · have h' := tS_n h
      have h'' := vS_n h'.1
      rw [am_up_o (by omega), am_up_o (by omega), hf q k (by unfold mcS; simp; omega)]
    · rw [am_up_o (by omega), am_up_e]
def boI (I : tI) (o mi' mi v u : Nat) : tI := am_up (shI (am_up I o 2 (am_i mi')) o (am_i v) (am_i u)) (o + 2) 16 (am_i ((mi' : Int) - mi))
theorem boI_o {I : tI} {o mi' mi v u q k : Nat} (h : ¬ q = o + 2) (h2 : ¬ (q = o ∧ k = 2)) : boI I o mi' mi v u q k = I q k := by
  unfold boI
  rw [am_up_o (fun e => h e.1), shI_o h, am_up_o h2]
theorem boI_2 {I : tI} {o mi' mi v u : Nat} : boI I o mi' mi v u o 2 = am_i mi' := by
  unfold boI
  rw [am_up_o (by omega), shI_o (by omega), am_up_e]
theorem boI_e {I : tI} {o mi' mi v u ti ro : Nat} (h3 : I o 3 = am_i ti) (h4 : I o 4 = am_i ro) {w : Nat} (hw : wdOK false true w) : w < 26 ∧ boI I o mi' mi v u (o + 2) w = am_i (enS v ti ro mi' u ((mi' : Int) - mi) w) := by
  have hw' : w = 16 ∨ w = 14 ∨ w = 3 ∨ w = 4 ∨ w = 15 ∨ w = 12 := by
    rcases hw with h | h | h | h | h | h | h
    · exact Or.inr (Or.inl h)
    · exact Or.inr (Or.inr (Or.inl h))
    · exact Or.inr (Or.inr (Or.inr (Or.inl h)))
    · exact Or.inr (Or.inr (Or.inr (Or.inr (Or.inl h))))
    · exact Or.inr (Or.inr (Or.inr (Or.inr (Or.inr h))))
    · exact Or.inl h.2
    · cases h.1
  refine ⟨by omega, ?_⟩
  rcases hw' with rfl | hw'
  · unfold boI
    rw [am_up_e]
    rfl
  · unfold boI
    rw [am_up_o (by omega)]
    exact shI_e (by rw [am_up_o (by omega)]; exact h3) (by rw [am_up_o (by omega)]; exact h4) am_up_e hw'
theorem x_landed {m : Nat} (hx : st_Rx R) (ho : o = 35 ∨ o = 42) (hc : c = 10 ∨ c = 20) (hR : R o 1 = c) (hm : m ≤ 60) (hl : last ≤ 60) (h2 : I o 2 = am_i m) (h0 : I c 0 = am_i last) : am_E (d + 1) 39 0 [(0, .ref o)] [] (I, J, R, 138) = some (some (.int (b01 (m = last))), (I, J, R, 138)) := by
  rw [sg_X5_isLanded_0]
  by_cases q : m = last
  · simp (disch := first | assumption | omega) only [am_i_add, am_i_sub, am_i_mul, am_ok_i, am_i_cl, n_lt, n_le, n_eq, n_lt0, n_le0, n_0lt, n_0le, n_eq0, ne_eq, ↓reduceIte, not_true_eq_false, not_false_eq_true, and_true, true_and, and_false, false_and, eq_T, eq_F, lt_T, lt_F, le_T, le_F, qn_T, qn_F, and_F, b01_T, b01_F, e_isIn, Int32.toInt_toInt64, am_i_toInt, am_l_toInt, Int.toNat_natCast, Int.reduceToNat, Int.reduceAdd, Int.reduceSub, Int.reduceMul, Int.reduceNeg, Nat.reduceAdd, Nat.reduceMul, Nat.add_zero, Nat.mul_zero, Nat.zero_add, am_zb0, am_zb1, rC hx hc, ↓Bool.cond_decide, cond_true, cond_false, rH hx ho, hR, h2, h0, b01_t q]
  · simp (disch := first | assumption | omega) only [am_i_add, am_i_sub, am_i_mul, am_ok_i, am_i_cl, n_lt, n_le, n_eq, n_lt0, n_le0, n_0lt, n_0le, n_eq0, ne_eq, ↓reduceIte, not_true_eq_false, not_false_eq_true, and_true, true_and, and_false, false_and, eq_T, eq_F, lt_T, lt_F, le_T, le_F, qn_T, qn_F, and_F, b01_T, b01_F, e_isIn, Int32.toInt_toInt64, am_i_toInt, am_l_toInt, Int.toNat_natCast, Int.reduceToNat, Int.reduceAdd, Int.reduceSub, Int.reduceMul, Int.reduceNeg, Nat.reduceAdd, Nat.reduceMul, Nat.add_zero, Nat.mul_zero, Nat.zero_add, am_zb0, am_zb1, rC hx hc, ↓Bool.cond_decide, cond_true, cond_false, rH hx ho, hR, h2, h0, b01_f q]
theorem x_bow (hx : st_Rx R) (ho : o = 35 ∨ o = 42) (hc : c = 10 ∨ c = 20) (hR : R o 1 = c) (hX : cxX c last wd wf fm I) (hO : bOK last n s) (hH : hullR o I n s) (hv : v < 8) (hu : u ≤ 9) : Wp (fun r M => ∃ I', r = none ∧ M = (I', J, R, 138) ∧ fr (hS o) I I' ∧ hullR o I' n (bwS last wf fm s v u)) (am_E (d + 5) 44 0 [(0, .ref o), (1, .int (am_i v)), (2, .int (am_i u))] [] (I, J, R, 138)) := by
  obtain ⟨k1, k2, k3, k4, k5, k6, k7⟩ := hO
  obtain ⟨h2, h3, h4, h5, h6, h7, h8⟩ := hH
  have hl := hX.2.1
  have hc0 := hX.1
  have rb := rcS_b (wf := wf) (fm := fm) (s := s) (v := v) (u := u)
  have mb := miS_b (last := last) (wf := wf) (fm := fm) (s := s) (v := v) (u := u)
  have eb := enS_b (v := v) (ti := s.ti) (ro := s.ro) (mi := miS last wf fm s v u) (u := u) (wt := (miS last wf fm s v u : Int) - s.mi) (by omega) k2 k3 (by omega) hu (by omega) (by omega)
  rw [sg_X5_bow_0]
  simp (disch := first | assumption | omega) only [am_i_add, am_i_sub, am_i_mul, am_ok_i, am_i_cl, n_lt, n_le, n_eq, n_lt0, n_le0, n_0lt, n_0le, n_eq0, ne_eq, ↓reduceIte, not_true_eq_false, not_false_eq_true, and_true, true_and, and_false, false_and, eq_T, eq_F, lt_T, lt_F, le_T, le_F, qn_T, qn_F, and_F, b01_T, b01_F, e_isIn, Int32.toInt_toInt64, am_i_toInt, am_l_toInt, Int.toNat_natCast, Int.reduceToNat, Int.reduceAdd, Int.reduceSub, Int.reduceMul, Int.reduceNeg, Nat.reduceAdd, Nat.reduceMul, Nat.add_zero, Nat.mul_zero, Nat.zero_add, am_zb0, am_zb1, rC hx hc, ↓Bool.cond_decide, cond_true, cond_false, ↓bI_p, bIJ_s, ↓bV_p, bVJ_s, rH hx ho, hR, ↓clI_p]
  refine Wp_I (x_reach (s := s) hx ho hc hR hX k1 k2 k3 h2 h3 h4 hv hu) ?_
  rintro _ _ ⟨I1, rfl, rfl, hf1⟩
  refine ⟨_, rfl, ?_⟩
  have g : ∀ q k, ¬ (q = o + 1 ∧ k = 5) → q ≠ o + 2 → q ≠ o + 5 → I1 q k = I q k := fun q k a1 a2 a3 => hf1 q k (vS_f a1 a2 a3)
  have x1 : clI (am_i 0) (I c 0) (I o 2 + am_i (rcS wf fm s v u)) = am_i (miS last wf fm s v u) := by
    rw [hc0, h2, am_i_add, clI_i (by omega) (by omega) (by omega) (by omega) (by omega), ← mb.1]
  have x2 : am_up (shI (am_up I1 o 2 (am_i (miS last wf fm s v u))) o (am_i v) (am_i u)) (o + 2) 16 (am_i (miS last wf fm s v u) - I o 2) = boI I1 o (miS last wf fm s v u) s.mi v u := by
    rw [h2, am_i_sub]
    rfl
  have hX1 : cxX c last wd wf fm I1 := cxX_c hc (fun q k a1 a2 => g q k (by omega) (by omega) (by omega)) hX
  have hXb : cxX c last wd wf fm (boI I1 o (miS last wf fm s v u) s.mi v u) := cxX_c hc (fun q k a1 a2 => boI_o (by omega) (by omega)) hX1
  have g3 : I1 o 3 = am_i s.ti := by rw [g _ _ (by omega) (by omega) (by omega)]; exact h3
  have g4 : I1 o 4 = am_i s.ro := by rw [g _ _ (by omega) (by omega) (by omega)]; exact h4
  have ebw : ∀ w, wdOK false true w → w < 26 ∧ boI I1 o (miS last wf fm s v u) s.mi v u (o + 2) w = am_i (enS v s.ti s.ro (miS last wf fm s v u) u ((miS last wf fm s v u : Int) - s.mi) w) := fun w hw => boI_e g3 g4 hw
  have xL := fun d => x_landed (d := d) (J := J) (I := boI I1 o (miS last wf fm s v u) s.mi v u) (m := miS last wf fm s v u) hx ho hc hR (by omega) hl boI_2 hXb.1
  have hfb : fr (hS o) I (boI I1 o (miS last wf fm s v u) s.mi v u) := fun q k h => by
    have := hS_f.mp h
    rw [boI_o (by omega) (by omega), g _ _ (by omega) (by omega) (by omega)]
  have su0 : ∀ p : Prop, (bwS last wf fm s v u).su = (if miS last wf fm s v u ≠ last ∧ vlS last wf fm s v u 2 = 1 then 1 else s.su) := fun _ => rfl
  /- behind the swamping -/
  have fin : ∀ I2 su, fr (mcS (o + 1)) (boI I1 o (miS last wf fm s v u) s.mi v u) I2 → (bwS last wf fm s v u).su = su → ∀ I3, (∀ q k, ¬ (q = o ∧ k = 5) → I3 q k = I2 q k) → I3 o 5 = am_i (su : Nat) → Wp (fun r M => ∃ I', r = none ∧ M = (I', J, R, 138) ∧ fr (hS o) I I' ∧ hullR o I' n (bwS last wf fm s v u)) (am_E (d + 5) 44 104 [(0, .ref o)] [] (I3, J, R, 138)) := by
    intro I2 su f1 f2 I3 f3 f4
    have z : ∀ q k, ¬ (q = o ∧ k = 5) → ¬ (q = o + 1 ∧ k = 5) → q ≠ o + 5 → I3 q k = boI I1 o (miS last wf fm s v u) s.mi v u q k := fun q k a1 a2 a3 => by
      rw [f3 q k a1, f1 q k (by unfold mcS; simp; omega)]
    refine Wp_m (x_tail (d := d + 1) (ro := s.ro) hx ho hc hR (cxX_c hc (fun q k a1 a2 => z q k (by omega) (by omega) (by omega)) hXb) eb (fun w hw => ⟨(ebw w hw).1, by rw [z _ _ (by omega) (by omega) (by omega)]; exact (ebw w hw).2⟩) k3 (by rw [z _ _ (by omega) (by omega) (by omega), boI_o (by omega) (by omega)]; exact g4)) ?_
    rintro _ _ ⟨I', rfl, rfl, e1, e2, e3⟩
    refine ⟨I', rfl, rfl, fun q k h => ?_, ?_, e2, e3, ?_, ?_, ?_, fun k hk => ?_⟩
    · have h' := hS_f.mp h
      rw [e1 q k (tS_f (by omega) (by omega) (by omega) (by omega)), z q k (by omega) (by omega) (by omega), hfb q k h]
    · rw [e1 _ _ (tS_f (by omega) (by omega) (by omega) (by omega)), z _ _ (by omega) (by omega) (by omega), boI_2]; rfl
    · rw [e1 _ _ (tS_f (by omega) (by omega) (by omega) (by omega)), f4, f2]
    · rw [e1 _ _ (tS_f (by omega) (by omega) (by omega) (by omega)), z _ _ (by omega) (by omega) (by omega), boI_o (by omega) (by omega), g _ _ (by omega) (by omega) (by omega)]; exact h6
    · rw [e1 _ _ (tS_f (by omega) (by omega) (by omega) (by omega)), z _ _ (by omega) (by omega) (by omega), boI_o (by omega) (by omega), g _ _ (by omega) (by omega) (by omega)]; exact h7
    · rw [e1 _ _ (tS_f (by omega) (by omega) (by omega) (by omega)), z _ _ (by omega) (by omega) (by omega), boI_o (by omega) (by omega), g _ _ (by omega) (by omega) (by omega)]; exact h8 k hk
  have b5 : boI I1 o (miS last wf fm s v u) s.mi v u o 5 = am_i s.su := by rw [boI_o (by omega) (by omega), g _ _ (by omega) (by omega) (by omega)]; exact h5
  by_cases cl : miS last wf fm s v u = last
  · simp (disch := first | assumption | omega) only [am_i_add, am_i_sub, am_i_mul, am_ok_i, am_i_cl, n_lt, n_le, n_eq, n_lt0, n_le0, n_0lt, n_0le, n_eq0, ne_eq, ↓reduceIte, not_true_eq_false, not_false_eq_true, and_true, true_and, and_false, false_and, eq_T, eq_F, lt_T, lt_F, le_T, le_F, qn_T, qn_F, and_F, b01_T, b01_F, e_isIn, Int32.toInt_toInt64, am_i_toInt, am_l_toInt, Int.toNat_natCast, Int.reduceToNat, Int.reduceAdd, Int.reduceSub, Int.reduceMul, Int.reduceNeg, Nat.reduceAdd, Nat.reduceMul, Nat.add_zero, Nat.mul_zero, Nat.zero_add, am_zb0, am_zb1, rC hx hc, ↓Bool.cond_decide, cond_true, cond_false, ↓am_let_s, ↓bI_p, bIJ_s, ↓bV_p, bVJ_s, rH hx ho, hR, ↓x1, x_show hx ho, shI_o, am_up_e, ↓x2, xL, b01_t cl]
    exact fin _ s.su (fr_r _ _) (by rw [su0 True, if_neg (fun e => e.1 cl)]) _ (fun _ _ _ => rfl) b5
  · simp (disch := first | assumption | omega) only [am_i_add, am_i_sub, am_i_mul, am_ok_i, am_i_cl, n_lt, n_le, n_eq, n_lt0, n_le0, n_0lt, n_0le, n_eq0, ne_eq, ↓reduceIte, not_true_eq_false, not_false_eq_true, and_true, true_and, and_false, false_and, eq_T, eq_F, lt_T, lt_F, le_T, le_F, qn_T, qn_F, and_F, b01_T, b01_F, e_isIn, Int32.toInt_toInt64, am_i_toInt, am_l_toInt, Int.toNat_natCast, Int.reduceToNat, Int.reduceAdd, Int.reduceSub, Int.reduceMul, Int.reduceNeg, Nat.reduceAdd, Nat.reduceMul, Nat.add_zero, Nat.mul_zero, Nat.zero_add, am_zb0, am_zb1, rC hx hc, ↓Bool.cond_decide, cond_true, cond_false, ↓am_let_s, ↓bI_p, bIJ_s, ↓bV_p, bVJ_s, rH hx ho, hR, ↓x1, x_show hx ho, shI_o, am_up_e, ↓x2, xL, b01_f cl]
    refine Wp_I (x_run0 (f := 2) (en := enS v s.ti s.ro (miS last wf fm s v u) u ((miS last wf fm s v u : Int) - s.mi)) hx ho hc hXb (by decide) eb ebw) ?_
    rintro _ _ ⟨I2, rfl, rfl, hf2⟩
    refine ⟨_, rfl, ?_⟩
    have vb := vl_ok (hX.2.2.2.2.2 2 (by decide)).2 eb
    by_cases c2 : vl (enS v s.ti s.ro (miS last wf fm s v u) u ((miS last wf fm s v u : Int) - s.mi)) e0 (fm 2) = 1
    · simp (disch := first | assumption | omega) only [am_i_add, am_i_sub, am_i_mul, am_ok_i, am_i_cl, n_lt, n_le, n_eq, n_lt0, n_le0, n_0lt, n_0le, n_eq0, ne_eq, ↓reduceIte, not_true_eq_false, not_false_eq_true, and_true, true_and, and_false, false_and, eq_T, eq_F, lt_T, lt_F, le_T, le_F, qn_T, qn_F, and_F, b01_T, b01_F, e_isIn, Int32.toInt_toInt64, am_i_toInt, am_l_toInt, Int.toNat_natCast, Int.reduceToNat, Int.reduceAdd, Int.reduceSub, Int.reduceMul, Int.reduceNeg, Nat.reduceAdd, Nat.reduceMul, Nat.add_zero, Nat.mul_zero, Nat.zero_add, am_zb0, am_zb1, ↓Bool.cond_decide, cond_true, cond_false, ↓am_let_s, rH hx ho, c2, Bool.and_self]
      exact fin I2 1 hf2 (by rw [su0 True, if_pos ⟨cl, c2⟩]) _ (fun q k h => am_up_o h) am_up_e
    · simp (disch := first | assumption | omega) only [am_i_add, am_i_sub, am_i_mul, am_ok_i, am_i_cl, n_lt, n_le, n_eq, n_lt0, n_le0, n_0lt, n_0le, n_eq0, ne_eq, ↓reduceIte, not_true_eq_false, not_false_eq_true, and_true, true_and, and_false, false_and, eq_T, eq_F, lt_T, lt_F, le_T, le_F, qn_T, qn_F, and_F, b01_T, b01_F, e_isIn, Int32.toInt_toInt64, am_i_toInt, am_l_toInt, Int.toNat_natCast, Int.reduceToNat, Int.reduceAdd, Int.reduceSub, Int.reduceMul, Int.reduceNeg, Nat.reduceAdd, Nat.reduceMul, Nat.add_zero, Nat.mul_zero, Nat.zero_add, am_zb0, am_zb1, ↓Bool.cond_decide, cond_true, cond_false, ↓am_let_s, rH hx ho]
      exact fin I2 s.su hf2 (by rw [su0 True, if_neg (fun e => c2 e.2)]) _ (fun _ _ _ => rfl) (by rw [hf2 o 5 (by unfold mcS; simp; omega)]; exact b5)
theorem x_next (hx : st_Rx R) (ho : o = 35 ∨ o = 42) (hn : n ≤ 6) (hp : s.pl < n ∨ s.pl = 0) (hH : hullR o I n s) : am_E (d + 1) 41 0 [(0, .ref o)] [] (I, J, R, 138) = some (some (.int (am_i (if n = 0 then -1 else (s.sc s.pl : Int)))), (I, J, R, 138)) := by
  obtain ⟨h2, h3, h4, h5, h6, h7, h8⟩ := hH
  rw [sg_X5_nextNote_0]
  by_cases q : n = 0
  · subst q
    simp (disch := first | assumption | omega) only [am_i_add, am_i_sub, am_i_mul, am_ok_i, am_i_cl, n_lt, n_le, n_eq, n_lt0, n_le0, n_0lt, n_0le, n_eq0, ne_eq, ↓reduceIte, not_true_eq_false, not_false_eq_true, and_true, true_and, and_false, false_and, eq_T, eq_F, lt_T, lt_F, le_T, le_F, qn_T, qn_F, and_F, b01_T, b01_F, e_isIn, Int32.toInt_toInt64, am_i_toInt, am_l_toInt, Int.toNat_natCast, Int.reduceToNat, Int.reduceAdd, Int.reduceSub, Int.reduceMul, Int.reduceNeg, Nat.reduceAdd, Nat.reduceMul, Nat.add_zero, Nat.mul_zero, Nat.zero_add, am_zb0, am_zb1, ↓Bool.cond_decide, cond_true, cond_false, rH hx ho, h6, h7, sg_X5_nextNote_39]
  · have := h8 s.pl (by omega)
    simp (disch := first | assumption | omega) only [am_i_add, am_i_sub, am_i_mul, am_ok_i, am_i_cl, n_lt, n_le, n_eq, n_lt0, n_le0, n_0lt, n_0le, n_eq0, ne_eq, ↓reduceIte, not_true_eq_false, not_false_eq_true, and_true, true_and, and_false, false_and, eq_T, eq_F, lt_T, lt_F, le_T, le_F, qn_T, qn_F, and_F, b01_T, b01_F, e_isIn, Int32.toInt_toInt64, am_i_toInt, am_l_toInt, Int.toNat_natCast, Int.reduceToNat, Int.reduceAdd, Int.reduceSub, Int.reduceMul, Int.reduceNeg, Nat.reduceAdd, Nat.reduceMul, Nat.add_zero, Nat.mul_zero, Nat.zero_add, am_zb0, am_zb1, ↓Bool.cond_decide, cond_true, cond_false, rH hx ho, h6, h7, this]
/-- an hour of one boat -/
theorem x_pass (hx : st_Rx R) (ho : o = 35 ∨ o = 42) (hc : c = 10 ∨ c = 20) (hR : R o 1 = c) (hX : cxX c last wd wf fm I) (hn : n ≤ 6) (hO : bOK last n s) (hH : hullR o I n s) (hu : u ≤ 9) : Wp (fun r M => ∃ I', r = some (.int (am_i (noS last n s))) ∧ M = (I', J, R, 138) ∧ fr (hS o) I I' ∧ hullR o I' n (paS last wf fm u n s)) (am_E (d + 6) 45 0 [(0, .ref o), (1, .int (am_i u))] [] (I, J, R, 138)) := by
  obtain ⟨k1, k2, k3, k4, k5, k6, k7⟩ := hO
  have hN := fun d => x_next (d := d) (J := J) hx ho hn k5 hH
  have hl := hX.2.1
  have xL := fun d => x_landed (d := d) (J := J) (I := I) (m := s.mi) hx ho hc hR (by omega) hl hH.1 hX.1
  have h5 := hH.2.2.2.1
  rw [sg_X5_pass_0]
  by_cases q : n = 0
  · simp (disch := first | assumption | omega) only [am_i_add, am_i_sub, am_i_mul, am_ok_i, am_i_cl, n_lt, n_le, n_eq, n_lt0, n_le0, n_0lt, n_0le, n_eq0, ne_eq, ↓reduceIte, not_true_eq_false, not_false_eq_true, and_true, true_and, and_false, false_and, eq_T, eq_F, lt_T, lt_F, le_T, le_F, qn_T, qn_F, and_F, b01_T, b01_F, e_isIn, Int32.toInt_toInt64, am_i_toInt, am_l_toInt, Int.toNat_natCast, Int.reduceToNat, Int.reduceAdd, Int.reduceSub, Int.reduceMul, Int.reduceNeg, Nat.reduceAdd, Nat.reduceMul, Nat.add_zero, Nat.mul_zero, Nat.zero_add, am_zb0, am_zb1, ↓Bool.cond_decide, cond_true, cond_false, ↓bI_p, bIJ_s, rH hx ho, hN, q, sg_X5_pass_24]
    have hou : ¬ ouS last n s := fun e => e.1 q
    refine Wp_r ⟨I, by unfold noS; rw [if_neg hou]; rfl, rfl, fr_r _ _, ?_⟩
    unfold paS
    rw [if_neg hou]
    exact hH
  · have hsc := k7 s.pl (by omega)
    by_cases q2 : s.su = 0
    · by_cases q3 : s.mi = last
      · simp (disch := first | assumption | omega) only [am_i_add, am_i_sub, am_i_mul, am_ok_i, am_i_cl, n_lt, n_le, n_eq, n_lt0, n_le0, n_0lt, n_0le, n_eq0, ne_eq, ↓reduceIte, not_true_eq_false, not_false_eq_true, and_true, true_and, and_false, false_and, eq_T, eq_F, lt_T, lt_F, le_T, le_F, qn_T, qn_F, and_F, b01_T, b01_F, e_isIn, Int32.toInt_toInt64, am_i_toInt, am_l_toInt, Int.toNat_natCast, Int.reduceToNat, Int.reduceAdd, Int.reduceSub, Int.reduceMul, Int.reduceNeg, Nat.reduceAdd, Nat.reduceMul, Nat.add_zero, Nat.mul_zero, Nat.zero_add, am_zb0, am_zb1, ↓Bool.cond_decide, cond_true, cond_false, ↓bI_p, bIJ_s, rH hx ho, hN, q, h5, q2, xL, b01_t q3, sg_X5_pass_24]
        have hou : ¬ ouS last n s := fun e => e.2.2 q3
        refine Wp_r ⟨I, by unfold noS; rw [if_neg hou]; rfl, rfl, fr_r _ _, ?_⟩
        unfold paS
        rw [if_neg hou]
        exact hH
      · simp (disch := first | assumption | omega) only [am_i_add, am_i_sub, am_i_mul, am_ok_i, am_i_cl, n_lt, n_le, n_eq, n_lt0, n_le0, n_0lt, n_0le, n_eq0, ne_eq, ↓reduceIte, not_true_eq_false, not_false_eq_true, and_true, true_and, and_false, false_and, eq_T, eq_F, lt_T, lt_F, le_T, le_F, qn_T, qn_F, and_F, b01_T, b01_F, e_isIn, Int32.toInt_toInt64, am_i_toInt, am_l_toInt, Int.toNat_natCast, Int.reduceToNat, Int.reduceAdd, Int.reduceSub, Int.reduceMul, Int.reduceNeg, Nat.reduceAdd, Nat.reduceMul, Nat.add_zero, Nat.mul_zero, Nat.zero_add, am_zb0, am_zb1, ↓Bool.cond_decide, cond_true, cond_false, ↓bI_p, bIJ_s, ↓bV_p, rH hx ho, hN, q, h5, q2, xL, b01_f q3]
        refine Wp_V (x_bow (s := s) hx ho hc hR hX ⟨k1, k2, k3, k4, k5, k6, k7⟩ hH hsc hu) ?_
        rintro _ _ ⟨I', rfl, rfl, hf, h2', h3', h4', h5', h6', h7', h8'⟩
        refine ⟨rfl, ?_⟩
        have hou : ouS last n s := ⟨q, q2, q3⟩
        have e6 : I' o 6 = am_i s.pl := h6'
        by_cases q4 : s.pl + 1 < n
        · simp (disch := first | assumption | omega) only [am_i_add, am_i_sub, am_i_mul, am_ok_i, am_i_cl, n_lt, n_le, n_eq, n_lt0, n_le0, n_0lt, n_0le, n_eq0, ne_eq, ↓reduceIte, not_true_eq_false, not_false_eq_true, and_true, true_and, and_false, false_and, eq_T, eq_F, lt_T, lt_F, le_T, le_F, qn_T, qn_F, and_F, b01_T, b01_F, e_isIn, Int32.toInt_toInt64, am_i_toInt, am_l_toInt, Int.toNat_natCast, Int.reduceToNat, Int.reduceAdd, Int.reduceSub, Int.reduceMul, Int.reduceNeg, Nat.reduceAdd, Nat.reduceMul, Nat.add_zero, Nat.mul_zero, Nat.zero_add, am_zb0, am_zb1, ↓Bool.cond_decide, cond_true, cond_false, ↓am_let_s, rH hx ho, e6, h7']
          refine Wp_r ⟨_, by unfold noS; rw [if_pos hou], rfl, fun q k h => ?_, ?_⟩
          · have := hS_f.mp h
            rw [am_up_o (by omega)]
            exact hf q k h
          · unfold paS
            rw [if_pos hou, if_pos q4]
            refine ⟨?_, ?_, ?_, ?_, am_up_e, ?_, fun k hk => ?_⟩
            · rw [am_up_o (by omega)]; exact h2'
            · rw [am_up_o (by omega)]; exact h3'
            · rw [am_up_o (by omega)]; exact h4'
            · rw [am_up_o (by omega)]; exact h5'
            · rw [am_up_o (by omega)]; exact h7'
            · rw [am_up_o (by omega)]; exact h8' k hk
        · simp (disch := first | assumption | omega) only [am_i_add, am_i_sub, am_i_mul, am_ok_i, am_i_cl, n_lt, n_le, n_eq, n_lt0, n_le0, n_0lt, n_0le, n_eq0, ne_eq, ↓reduceIte, not_true_eq_false, not_false_eq_true, and_true, true_and, and_false, false_and, eq_T, eq_F, lt_T, lt_F, le_T, le_F, qn_T, qn_F, and_F, b01_T, b01_F, e_isIn, Int32.toInt_toInt64, am_i_toInt, am_l_toInt, Int.toNat_natCast, Int.reduceToNat, Int.reduceAdd, Int.reduceSub, Int.reduceMul, Int.reduceNeg, Nat.reduceAdd, Nat.reduceMul, Nat.add_zero, Nat.mul_zero, Nat.zero_add, am_zb0, am_zb1, ↓Bool.cond_decide, cond_true, cond_false, ↓am_let_s, rH hx ho, e6, h7']
          refine Wp_r ⟨_, by unfold noS; rw [if_pos hou], rfl, fun q k h => ?_, ?_⟩
          · have := hS_f.mp h
            rw [am_up_o (by omega)]
            exact hf q k h
          · unfold paS
            rw [if_pos hou, if_neg q4]
            refine ⟨?_, ?_, ?_, ?_, am_up_e, ?_, fun k hk => ?_⟩
            · rw [am_up_o (by omega)]; exact h2'
            · rw [am_up_o (by omega)]; exact h3'
            · rw [am_up_o (by omega)]; exact h4'
            · rw [am_up_o (by omega)]; exact h5'
            · rw [am_up_o (by omega)]; exact h7'
            · rw [am_up_o (by omega)]; exact h8' k hk
    · simp (disch := first | assumption | omega) only [am_i_add, am_i_sub, am_i_mul, am_ok_i, am_i_cl, n_lt, n_le, n_eq, n_lt0, n_le0, n_0lt, n_0le, n_eq0, ne_eq, ↓reduceIte, not_true_eq_false, not_false_eq_true, and_true, true_and, and_false, false_and, eq_T, eq_F, lt_T, lt_F, le_T, le_F, qn_T, qn_F, and_F, b01_T, b01_F, e_isIn, Int32.toInt_toInt64, am_i_toInt, am_l_toInt, Int.toNat_natCast, Int.reduceToNat, Int.reduceAdd, Int.reduceSub, Int.reduceMul, Int.reduceNeg, Nat.reduceAdd, Nat.reduceMul, Nat.add_zero, Nat.mul_zero, Nat.zero_add, am_zb0, am_zb1, ↓Bool.cond_decide, cond_true, cond_false, ↓bI_p, bIJ_s, rH hx ho, hN, q, h5, sg_X5_pass_24]
      have hou : ¬ ouS last n s := fun e => q2 e.2.1
      refine Wp_r ⟨I, by unfold noS; rw [if_neg hou]; rfl, rfl, fr_r _ _, ?_⟩
      unfold paS
      rw [if_neg hou]
      exact hH
end HULL
