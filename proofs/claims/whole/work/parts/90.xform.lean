/-! ===== the class's formulas ===== -/
def acS (ac : Nat) (l : List tok) : Nat := if ac = 1 ∨ (5, 9) ∈ l then 1 else 0
def fS (so o sz ac : Nat) (I : tI) : Prop := I 8 2 = am_i sz ∧ I 8 3 = am_i ac ∧ I 8 4 = am_i o ∧ I 8 5 = am_i so
def ftX (e pl : Nat) (I : tI) : Prop := xFt e pl I ∧ (∃ s : Nat, s ≤ 1600 ∧ I 8 2 = am_i s) ∧ ∃ a : Nat, a ≤ 1 ∧ I 8 3 = am_i a
def frF (I I' : tI) : Prop := I' 8 5 = I 8 5 ∧ ∀ q j, q ≠ 5 → q ≠ 8 → q ≠ 9 → I' q j = I q j
def xP (T : Nat → Nat) (n o sz ac : Nat) (r : pR) (I I' : tI) : Prop :=
  (r.1 = 0 → scX T n r.2.1 I' ∧ I' 5 11 = I 5 11 ∧ I' 8 2 = am_i (sz + r.2.2.length : Nat) ∧ I' 8 3 = am_i (acS ac r.2.2) ∧ I' 8 4 = am_i o ∧ (∀ k t, r.2.2[k]? = some t → I' 9 (sz + k) = am_i (encX t)) ∧ ∀ k, k < sz → I' 9 k = I 9 k) ∧ (r.1 ≠ 0 → ftX r.1 r.2.1 I') ∧ frF I I'
def mdM (md : Nat) : Nat := if md = 0 then 26 else if md = 1 ∨ md = 2 then 25 else if md = 3 ∨ md = 4 then 24 else if md = 5 then 22 else if md = 6 ∨ md = 7 then 21 else 20
def mdQ (md : Nat) : Nat := if md = 0 then 9 else if md = 1 ∨ md = 2 then 10 else if md = 3 ∨ md = 4 then 11 else if md = 5 then 13 else if md = 6 ∨ md = 7 then 14 else 15
theorem acS_a {ac : Nat} {l1 l2 : List tok} : acS (acS ac l1) l2 = acS ac (l1 ++ l2) := by
  unfold acS
  by_cases q : ac = 1 ∨ (5, 9) ∈ l1
  · rw [if_pos q, if_pos (Or.inl rfl), if_pos (by rcases q with q | q; exact Or.inl q; exact Or.inr (List.mem_append_left _ q))]
  · rw [if_neg q]
    by_cases q2 : (5, 9) ∈ l2
    · rw [if_pos (Or.inr q2), if_pos (Or.inr (List.mem_append_right _ q2))]
    · rw [if_neg (fun e => e.elim (fun h => by omega) q2), if_neg]
      rintro (h | h)
      · exact q (Or.inl h)
      · rcases List.mem_append.mp h with h | h
        · exact q (Or.inr h)
        · exact q2 h
theorem acS_b {ac : Nat} {l : List tok} : acS ac l ≤ 1 := by unfold acS; split <;> omega
theorem acS_0 {ac : Nat} {l : List tok} (h : ac ≤ 1) (h2 : ¬ (5, 9) ∈ l) : acS ac l = ac := by
  unfold acS
  by_cases q : ac = 1
  · rw [if_pos (Or.inl q), q]
  · rw [if_neg (fun e => e.elim q h2)]; omega
section XF
variable {d : Nat} {J : tJ} {R : tR} {T : Nat → Nat} {n : Nat}
theorem xP_t {o sz ac : Nat} {r : pR} {k : Nat → pR} {I I1 I2 : tI} (h0 : r.1 = 0) (h1 : xP T n o sz ac r I I1) (h2 : xP T n o (sz + r.2.2.length) (acS ac r.2.2) (k r.2.1) I1 I2) : xP T n o sz ac (pB r k) I I2 := by
  obtain ⟨a1, -, a3⟩ := h1
  obtain ⟨b1, b2, b3⟩ := h2
  obtain ⟨c1, c2, c3, c4, c5, c6, c7⟩ := a1 h0
  rw [pB_0 h0]
  refine ⟨fun e => ?_, b2, ⟨by rw [b3.1, a3.1], fun q j x y z => by rw [b3.2 q j x y z, a3.2 q j x y z]⟩⟩
  obtain ⟨d1, d2, d3, d4, d5, d6, d7⟩ := b1 e
  refine ⟨d1, by rw [d2, c2], by rw [d3]; show am_i ((sz + r.2.2.length + (k r.2.1).2.2.length : Nat) : Int) = am_i ((sz + (r.2.2 ++ (k r.2.1).2.2).length : Nat) : Int); rw [List.length_append, Nat.add_assoc], by rw [d4, acS_a], d5, fun i t ht => ?_, fun i hi => by rw [d7 i (by omega), c7 i hi]⟩
  have ht' : (r.2.2 ++ (k r.2.1).2.2)[i]? = some t := ht
  by_cases q : i < r.2.2.length
  · rw [List.getElem?_append_left q] at ht'
    rw [d7 _ (by omega)]
    exact c6 i t ht'
  · rw [List.getElem?_append_right (by omega)] at ht'
    have := d6 (i - r.2.2.length) t ht'
    rw [show sz + r.2.2.length + (i - r.2.2.length) = sz + i by omega] at this
    exact this
theorem xP_n {o sz ac : Nat} {r : pR} {k : Nat → pR} {I I1 : tI} (h0 : r.1 ≠ 0) (h1 : ftX r.1 r.2.1 I1) (hf : frF I I1) : xP T n o sz ac (pB r k) I I1 := by
  rw [pB_n h0]
  exact ⟨fun e => absurd e h0, fun _ => h1, hf⟩
theorem xP_e {o sz ac e pl : Nat} {l : List tok} {I I1 : tI} (he : e ≠ 0) (h1 : ftX e pl I1) (hf : frF I I1) : xP T n o sz ac (e, pl, l) I I1 := ⟨fun h => absurd h he, fun _ => h1, hf⟩
theorem frF_t {I I1 I2 : tI} (h1 : frF I I1) (h2 : frF I1 I2) : frF I I2 := ⟨by rw [h2.1, h1.1], fun q j x y z => by rw [h2.2 q j x y z, h1.2 q j x y z]⟩
theorem frF_r (I : tI) : frF I I := ⟨rfl, fun _ _ _ _ _ => rfl⟩
theorem frF_5 {I I1 : tI} (h : ∀ q j, q ≠ 5 → I1 q j = I q j) : frF I I1 := ⟨h _ _ (by omega), fun q j x _ _ => h q j x⟩
theorem txX_f {I I1 : tI} (hT : txX T n I R) (h : frF I I1) : txX T n I1 R := txX_c hT (fun q k e => h.2 q k (by omega) (by omega) (by omega))
theorem x_emit {I : tI} {s : Nat} {v : Int32} (hx : st_Rx R) (h : I 8 2 = am_i s) (hs : s < 1600) : am_E (d + 1) 18 0 [(0, .ref 8), (1, .int v)] [] (I, J, R, 138) = some (none, (am_up (am_up I 9 s v) 8 2 (am_i (s + 1 : Nat)), J, R, 138)) := by
  have h' : am_up I 9 s v 8 2 = am_i s := by rw [am_up_o (by omega)]; exact h
  rw [sg_X3_emit_0]
  simp (disch := first | assumption | omega) only [rX hx, ly_csx, ly_cax, ly_cf, ly_kd, ly_ln, ↓Bool.cond_decide, cond_true, cond_false, ↓bI_p, ↓bV_p, ↓bL_p, bIJ_s, bVJ_s, bLJ_s, ↓am_let_s, Nat.blt, Nat.ble, Bool.and_true, Bool.true_and, Bool.and_self, Int.cast_ofNat_Int, am_i_add, am_i_sub, am_i_mul, am_ok_i, am_i_cl, n_lt, n_le, n_eq, n_lt0, n_le0, n_0lt, n_0le, n_eq0, ne_eq, ↓reduceIte, not_true_eq_false, not_false_eq_true, and_true, true_and, and_false, false_and, eq_T, eq_F, lt_T, lt_F, le_T, le_F, qn_T, qn_F, and_F, b01_T, b01_F, e_isIn, Int32.toInt_toInt64, am_i_toInt, am_l_toInt, Int.toNat_natCast, Int.reduceToNat, Int.reduceAdd, Int.reduceSub, Int.reduceMul, Int.reduceNeg, Nat.reduceAdd, Nat.reduceMul, Nat.add_zero, Nat.mul_zero, Nat.zero_add, am_zb0, am_zb1, h, h', sg_X3_emit_30, am_i_s]
theorem x_emitF {I : tI} {e pl : Nat} {v : Int32} (hx : st_Rx R) (h : ftX e pl I) : ∃ I', (∀ d, am_E (d + 1) 18 0 [(0, .ref 8), (1, .int v)] [] (I, J, R, 138) = some (none, (I', J, R, 138))) ∧ ftX e pl I' ∧ frF I I' ∧ I' 8 4 = I 8 4 := by
  obtain ⟨⟨f1, f2, f3⟩, ⟨s, s1, s2⟩, ⟨a, a1, a2⟩⟩ := h
  by_cases q : s < 1600
  · refine ⟨_, fun d => x_emit (d := d) hx s2 q, ⟨⟨by rw [am_up_o (by omega), am_up_o (by omega)]; exact f1, by rw [am_up_o (by omega), am_up_o (by omega)]; exact f2, by rw [am_up_o (by omega), am_up_o (by omega)]; exact f3⟩, ⟨s + 1, by omega, am_up_e⟩, a, a1, by rw [am_up_o (by omega), am_up_o (by omega)]; exact a2⟩, ⟨by rw [am_up_o (by omega), am_up_o (by omega)], fun q j x y z => by rw [am_up_o (by omega), am_up_o (by omega)]⟩, by rw [am_up_o (by omega), am_up_o (by omega)]⟩
  · refine ⟨I, fun d => ?_, ⟨⟨f1, f2, f3⟩, ⟨s, s1, s2⟩, a, a1, a2⟩, frF_r I, rfl⟩
    rw [sg_X3_emit_0]
    simp (disch := first | assumption | omega) only [rX hx, ly_csx, ly_cax, ly_cf, ly_kd, ly_ln, ↓Bool.cond_decide, cond_true, cond_false, ↓bI_p, ↓bV_p, ↓bL_p, bIJ_s, bVJ_s, bLJ_s, ↓am_let_s, Nat.blt, Nat.ble, Bool.and_true, Bool.true_and, Bool.and_self, Int.cast_ofNat_Int, am_i_add, am_i_sub, am_i_mul, am_ok_i, am_i_cl, n_lt, n_le, n_eq, n_lt0, n_le0, n_0lt, n_0le, n_eq0, ne_eq, ↓reduceIte, not_true_eq_false, not_false_eq_true, and_true, true_and, and_false, false_and, eq_T, eq_F, lt_T, lt_F, le_T, le_F, qn_T, qn_F, and_F, b01_T, b01_F, e_isIn, Int32.toInt_toInt64, am_i_toInt, am_l_toInt, Int.toNat_natCast, Int.reduceToNat, Int.reduceAdd, Int.reduceSub, Int.reduceMul, Int.reduceNeg, Nat.reduceAdd, Nat.reduceMul, Nat.add_zero, Nat.mul_zero, Nat.zero_add, am_zb0, am_zb1, s2, sg_X3_emit_30]
/-- a token is emitted behind what was read -/
theorem xP_E {o sz ac : Nat} {r : pR} {t : tok} {I I1 : tI} (hx : st_Rx R) (hac : ac ≤ 1) (h9 : t ≠ (5, 9)) (hr : r.1 = 0 → sz + r.2.2.length < 1600) (h1 : xP T n o sz ac r I I1) : ∃ I2, (∀ d, am_E (d + 1) 18 0 [(0, .ref 8), (1, .int (am_i (encX t)))] [] (I1, J, R, 138) = some (none, (I2, J, R, 138))) ∧ xP T n o sz ac (pB r (fun p1 => pT p1 [t])) I I2 ∧ I2 8 4 = I1 8 4 := by
  by_cases q : r.1 = 0
  · obtain ⟨c1, c2, c3, c4, c5, c6, c7⟩ := h1.1 q
    refine ⟨_, fun d => x_emit (d := d) hx c3 (hr q), xP_t q h1 ⟨fun _ => ⟨?_, by rw [am_up_o (by omega), am_up_o (by omega)], am_up_e, ?_, by rw [am_up_o (by omega), am_up_o (by omega)]; exact c5, fun k t' ht => ?_, fun k hk => by rw [am_up_o (by omega), am_up_o (by omega)]⟩, fun e => absurd rfl e, ⟨by rw [am_up_o (by omega), am_up_o (by omega)], fun q j x y z => by rw [am_up_o (by omega), am_up_o (by omega)]⟩⟩, by rw [am_up_o (by omega), am_up_o (by omega)]⟩
    · obtain ⟨d1, d2, d3, d4, d5, d6, d7, d8⟩ := c1
      refine ⟨?_, ?_, ?_, ?_, ?_, fun k => ?_, fun k => ?_, fun k => ?_⟩
      · rw [am_up_o (by omega), am_up_o (by omega)]; exact d1
      · rw [am_up_o (by omega), am_up_o (by omega)]; exact d2
      · rw [am_up_o (by omega), am_up_o (by omega)]; exact d3
      · rw [am_up_o (by omega), am_up_o (by omega)]; exact d4
      · rw [am_up_o (by omega), am_up_o (by omega)]; exact d5
      · obtain ⟨x, y, z⟩ := d6 k
        exact ⟨by rw [am_up_o (by omega), am_up_o (by omega)]; exact x, by rw [am_up_o (by omega), am_up_o (by omega)]; exact y, fun h => by rw [am_up_o (by omega), am_up_o (by omega)]; exact z h⟩
      · obtain ⟨x, y⟩ := d7 k
        exact ⟨by rw [am_up_o (by omega), am_up_o (by omega)]; exact x, by rw [am_up_o (by omega), am_up_o (by omega)]; exact y⟩
      · rw [am_up_o (by omega), am_up_o (by omega)]; exact d8 k
    · rw [am_up_o (by omega), am_up_o (by omega), c4]
      exact congrArg (fun x : Nat => am_i (x : Int)) (acS_0 (l := [t]) acS_b (fun e => h9 (List.mem_singleton.mp e).symm)).symm
    · have ht' : ([t] : List tok)[k]? = some t' := ht
      have hk : k = 0 := by
        cases k with
        | zero => rfl
        | succ k => simp at ht'
      subst hk
      have e : t = t' := by simpa using ht'
      rw [am_up_o (by omega), Nat.add_zero, am_up_e, e]
  · obtain ⟨I2, a1, a2, a3, a4⟩ := x_emitF (J := J) (v := am_i (encX t)) hx (h1.2.1 q)
    exact ⟨I2, a1, xP_n q a2 (frF_t h1.2.2 a3), a4⟩
/-- a sign is needed behind what was read -/
theorem xP_S {o sz ac c : Nat} {r : pR} {I I1 : tI} (hx : st_Rx R) (hc : c < 256) (hT : txX T n I R) (hr : r.1 = 0 → r.2.1 ≤ n ∧ sz + r.2.2.length ≤ 1600) (he : r.1 ≤ 9) (h1 : xP T n o sz ac r I I1) : ∃ I2, am_E (d + 5) 85 0 [(0, .ref 5), (1, .int (am_i c))] [] (I1, J, R, 138) = some (none, (I2, J, R, 138)) ∧ xP T n o sz ac (pB r (fun p1 => pA (aS T n p1 c))) I I2 ∧ I2 8 4 = I1 8 4 := by
  by_cases q : r.1 = 0
  · obtain ⟨c1, c2, c3, c4, c5, c6, c7⟩ := h1.1 q
    obtain ⟨I2, a1, a2, a3⟩ := x_needSign (d := d) (J := J) hx (txX_f hT h1.2.2) (hr q).1 c1 hc
    refine ⟨I2, a1, xP_t q h1 ⟨fun e => ?_, fun e => ?_, frF_5 a3⟩, a3 _ _ (by omega)⟩
    · obtain ⟨b1, b2⟩ := a2.1 e
      exact ⟨b1, b2, by rw [a3 _ _ (by omega), c3]; rfl, by rw [a3 _ _ (by omega), c4]; exact congrArg (fun x : Nat => am_i (x : Int)) (acS_0 acS_b List.not_mem_nil).symm, by rw [a3 _ _ (by omega)]; exact c5, fun k t ht => by simp [pA] at ht, fun k hk => a3 _ _ (by omega)⟩
    · exact ⟨a2.2 e, ⟨sz + r.2.2.length, (hr q).2, by rw [a3 _ _ (by omega)]; exact c3⟩, acS ac r.2.2, acS_b, by rw [a3 _ _ (by omega)]; exact c4⟩
  · have f := h1.2.1 q
    exact ⟨I1, x_needSignF f.1 q he hc, xP_n q f h1.2.2, rfl⟩
end XF
