/-! ===== the end of a sound's text: the class ===== -/
/-- a formula, told or not -/
def fmX (X : sSt) (f : Nat) : List tok := match X.fo f with | some al => al.2 | none => frD f
def fqX (c : Nat) (X : sSt) (s f : Nat) (I : tI) : Prop := ∃ a : Nat, a + (fmX X f).length ≤ s ∧ I (c + 8) f = am_i a ∧ I (c + 9) f = am_i (a + (fmX X f).length : Nat) ∧ ∀ (k : Nat) (t : tok), (fmX X f)[k]? = some t → I 9 (a + k) = am_i (encX t)
/-- the chart but for formulas -/
def xHd (c : Nat) (X : sSt) (I : tI) : Prop :=
  (I c 0 = am_i X.la ∧ I c 1 = am_i X.bn.length ∧ I c 2 = am_i X.rd.length ∧ I c 3 = am_i X.nw ∧ I c 4 = am_i X.wd ∧ I c 5 = am_i X.sq) ∧
  (∀ (b : Nat) (x : sBo), X.bn[b]? = some x → I (c + 1) b = am_i (pk5 x.nm) ∧ I (c + 4) b = am_i x.sc.length ∧ I (c + 5) (11 * b) = am_i x.mi ∧ I (c + 5) (11 * b + 1) = am_i x.ti ∧ I (c + 5) (11 * b + 2) = am_i x.ro ∧ ∀ (k v : Nat), x.sc[k]? = some v → I (c + 5) (11 * b + 5 + k) = am_i v) ∧
  ((∀ b, X.bn.length ≤ b → b < 6 → I (c + 4) b = am_i 0) ∧ ∀ b, b < 6 → I (c + 5) (11 * b + 3) = am_i 0 ∧ I (c + 5) (11 * b + 4) = am_i 0) ∧
  (∀ (r : Nat) (y : List Nat × Nat), X.rd[r]? = some y → I (c + 2) r = am_i (pk5 y.1) ∧ I (c + 3) r = am_i y.2) ∧
  (∀ m, m ≤ 60 → I (c + 6) m = am_i (X.wf m))
theorem xHd_c {c : Nat} {X : sSt} {I I' : tI} (h : xHd c X I) (e : ∀ q j, c ≤ q ∧ q ≤ c + 6 → I' q j = I q j) : xHd c X I' := by
  obtain ⟨⟨a0, a1, a2, a3, a4, a5⟩, hb, ⟨hz, hz2⟩, hr, hw⟩ := h
  have g : ∀ k j, k ≤ 6 → I' (c + k) j = I (c + k) j := fun k j hk => e _ _ (by omega)
  have g0 : ∀ j, I' c j = I c j := fun j => e _ _ (by omega)
  refine ⟨⟨by rw [g0]; exact a0, by rw [g0]; exact a1, by rw [g0]; exact a2, by rw [g0]; exact a3, by rw [g0]; exact a4, by rw [g0]; exact a5⟩, fun b x hx => ?_, ⟨fun b h1 h2 => by rw [g _ _ (by omega)]; exact hz b h1 h2, fun b hb => by rw [g _ _ (by omega), g _ _ (by omega)]; exact hz2 b hb⟩, fun r y hy => ?_, fun m hm => by rw [g _ _ (by omega)]; exact hw m hm⟩
  · obtain ⟨b1, b2, b3, b4, b5, b6⟩ := hb b x hx
    exact ⟨by rw [g _ _ (by omega)]; exact b1, by rw [g _ _ (by omega)]; exact b2, by rw [g _ _ (by omega)]; exact b3, by rw [g _ _ (by omega)]; exact b4, by rw [g _ _ (by omega)]; exact b5, fun k v hv => by rw [g _ _ (by omega)]; exact b6 k v hv⟩
  · rw [g _ _ (by omega), g _ _ (by omega)]
    exact hr r y hy
section XFI
variable {d : Nat} {J : tJ} {R : tR} {T : Nat → Nat} {n p i c : Nat} {I I' : tI} {X : sSt}
theorem fmX_n {f : Nat} (h : X.fo f = none) : fmX X f = frD f := by unfold fmX; rw [h]
theorem fmX_s {f a : Nat} {l : List tok} (h : X.fo f = some (a, l)) : fmX X f = l := by unfold fmX; rw [h]
theorem frD_1 (f : Nat) : (frD f).length = 1 := rfl
/-- where a formula isn't told -/
theorem x_without (hx : st_Rx R) {f s : Nat} (hf : f < 3) (h8 : I 8 2 = am_i s) (hs : s < 1600) : am_E (d + 2) 16 0 [(0, .ref 8), (1, .int (am_i f))] [] (I, J, R, 138) = some (none, (am_up (am_up I 9 s (am_i (encX ((frD f).headD (0, 0))))) 8 2 (am_i (s + 1 : Nat)), J, R, 138)) := by
  have em := fun d v => x_emit (d := d) (J := J) (v := v) hx h8 hs
  rw [sg_X3_addWithout_0]
  have f3 : f = 0 ∨ f = 1 ∨ f = 2 := by omega
  rcases f3 with rfl | rfl | rfl
  · simp (disch := first | assumption | omega) only [rX hx, ly_csx, ly_cax, ly_cf, ly_kd, ly_ln, ↓Bool.cond_decide, cond_true, cond_false, ↓bI_p, ↓bV_p, ↓bL_p, bIJ_s, bVJ_s, bLJ_s, ↓am_let_s, Nat.blt, Nat.ble, Bool.and_true, Bool.true_and, Bool.and_self, Int.cast_ofNat_Int, am_i_add, am_i_sub, am_i_mul, am_ok_i, am_i_cl, n_lt, n_le, n_eq, n_lt0, n_le0, n_0lt, n_0le, n_eq0, ne_eq, ↓reduceIte, not_true_eq_false, not_false_eq_true, and_true, true_and, and_false, false_and, eq_T, eq_F, lt_T, lt_F, le_T, le_F, qn_T, qn_F, and_F, b01_T, b01_F, e_isIn, Int32.toInt_toInt64, am_i_toInt, am_l_toInt, Int.toNat_natCast, Int.reduceToNat, Int.reduceAdd, Int.reduceSub, Int.reduceMul, Int.reduceNeg, Nat.reduceAdd, Nat.reduceMul, Nat.add_zero, Nat.mul_zero, Nat.zero_add, am_zb0, am_zb1, em, sg_X3_addWithout_51]
    rfl
  · simp (disch := first | assumption | omega) only [rX hx, ly_csx, ly_cax, ly_cf, ly_kd, ly_ln, ↓Bool.cond_decide, cond_true, cond_false, ↓bI_p, ↓bV_p, ↓bL_p, bIJ_s, bVJ_s, bLJ_s, ↓am_let_s, Nat.blt, Nat.ble, Bool.and_true, Bool.true_and, Bool.and_self, Int.cast_ofNat_Int, am_i_add, am_i_sub, am_i_mul, am_ok_i, am_i_cl, n_lt, n_le, n_eq, n_lt0, n_le0, n_0lt, n_0le, n_eq0, ne_eq, ↓reduceIte, not_true_eq_false, not_false_eq_true, and_true, true_and, and_false, false_and, eq_T, eq_F, lt_T, lt_F, le_T, le_F, qn_T, qn_F, and_F, b01_T, b01_F, e_isIn, Int32.toInt_toInt64, am_i_toInt, am_l_toInt, Int.toNat_natCast, Int.reduceToNat, Int.reduceAdd, Int.reduceSub, Int.reduceMul, Int.reduceNeg, Nat.reduceAdd, Nat.reduceMul, Nat.add_zero, Nat.mul_zero, Nat.zero_add, am_zb0, am_zb1, em, sg_X3_addWithout_51]
    rfl
  · simp (disch := first | assumption | omega) only [rX hx, ly_csx, ly_cax, ly_cf, ly_kd, ly_ln, ↓Bool.cond_decide, cond_true, cond_false, ↓bI_p, ↓bV_p, ↓bL_p, bIJ_s, bVJ_s, bLJ_s, ↓am_let_s, Nat.blt, Nat.ble, Bool.and_true, Bool.true_and, Bool.and_self, Int.cast_ofNat_Int, am_i_add, am_i_sub, am_i_mul, am_ok_i, am_i_cl, n_lt, n_le, n_eq, n_lt0, n_le0, n_0lt, n_0le, n_eq0, ne_eq, ↓reduceIte, not_true_eq_false, not_false_eq_true, and_true, true_and, and_false, false_and, eq_T, eq_F, lt_T, lt_F, le_T, le_F, qn_T, qn_F, and_F, b01_T, b01_F, e_isIn, Int32.toInt_toInt64, am_i_toInt, am_l_toInt, Int.toNat_natCast, Int.reduceToNat, Int.reduceAdd, Int.reduceSub, Int.reduceMul, Int.reduceNeg, Nat.reduceAdd, Nat.reduceMul, Nat.add_zero, Nat.mul_zero, Nat.zero_add, am_zb0, am_zb1, em, sg_X3_addWithout_51]
    rfl
theorem x_fillO (hx : st_Rx R) (h2 : R 30 2 = c) (hc : c = 10 ∨ c = 20) (hsz : X.sz + 4 ≤ 1600) (hO : ∀ f a l, X.fo f = some (a, l) → 1 ≤ l.length) : ∀ (m g s : Nat) (I : tI), g + m = 3 → s ≤ X.sz + g → I 8 2 = am_i s → (∀ f, f < 3 → (f < g ∨ (X.fo f).isSome = true) → fqX c X s f I) → (∀ f, f < 3 → g ≤ f → X.fo f = none → I (c + 8) f = am_i 0 ∧ I (c + 9) f = am_i 0) → ∃ (s' : Nat) (I' : tI), am_E (d + 3) 91 2 [(0, .ref 30), (1, .int (am_i g))] [] (I, J, R, 138) = some (none, (I', J, R, 138)) ∧ s' ≤ X.sz + 3 ∧ I' 8 2 = am_i s' ∧ (∀ f, f < 3 → fqX c X s' f I') ∧ ∀ q j, ¬ ((q = 8 ∧ j = 2) ∨ q = 9 ∨ q = c + 8 ∨ q = c + 9) → I' q j = I q j
  | 0, g, s, I, hg, hs, h8, hQ, hN => by
    obtain rfl : g = 3 := by omega
    refine ⟨s, I, ?_, hs, h8, fun f hf => hQ f hf (Or.inl hf), fun _ _ _ => rfl⟩
    rw [sg_X10_fillIn_2]
    simp (disch := first | assumption | omega) only [rX hx, ly_csx, ly_cax, ly_cf, ly_kd, ly_ln, ↓Bool.cond_decide, cond_true, cond_false, ↓bI_p, ↓bV_p, ↓bL_p, bIJ_s, bVJ_s, bLJ_s, ↓am_let_s, Nat.blt, Nat.ble, Bool.and_true, Bool.true_and, Bool.and_self, Int.cast_ofNat_Int, am_i_add, am_i_sub, am_i_mul, am_ok_i, am_i_cl, n_lt, n_le, n_eq, n_lt0, n_le0, n_0lt, n_0le, n_eq0, ne_eq, ↓reduceIte, not_true_eq_false, not_false_eq_true, and_true, true_and, and_false, false_and, eq_T, eq_F, lt_T, lt_F, le_T, le_F, qn_T, qn_F, and_F, b01_T, b01_F, e_isIn, Int32.toInt_toInt64, am_i_toInt, am_l_toInt, Int.toNat_natCast, Int.reduceToNat, Int.reduceAdd, Int.reduceSub, Int.reduceMul, Int.reduceNeg, Nat.reduceAdd, Nat.reduceMul, Nat.add_zero, Nat.mul_zero, Nat.zero_add, am_zb0, am_zb1]
  | m + 1, g, s, I, hg, hs, h8, hQ, hN => by
    have g3 : g < 3 := by omega
    cases hq : X.fo g with
    | some al =>
      obtain ⟨a, l⟩ := al
      have ln := hO g a l hq
      obtain ⟨a', b1, b2, b3, b4⟩ := hQ g g3 (Or.inr (by rw [hq]; rfl))
      rw [fmX_s hq] at b1 b3
      have td : ∀ d, am_E (d + 1) 5 0 [(0, .ref c), (1, .int (am_i g))] [] (I, J, R, 138) = some (some (.int (am_i 1)), (I, J, R, 138)) := fun d => by
        rw [sg_X1_isTold_0]
        simp (disch := first | assumption | omega) only [rX hx, ly_csx, ly_cax, ly_cf, ly_kd, ly_ln, ↓Bool.cond_decide, cond_true, cond_false, ↓bI_p, ↓bV_p, ↓bL_p, bIJ_s, bVJ_s, bLJ_s, ↓am_let_s, Nat.blt, Nat.ble, Bool.and_true, Bool.true_and, Bool.and_self, Int.cast_ofNat_Int, am_i_add, am_i_sub, am_i_mul, am_ok_i, am_i_cl, n_lt, n_le, n_eq, n_lt0, n_le0, n_0lt, n_0le, n_eq0, ne_eq, ↓reduceIte, not_true_eq_false, not_false_eq_true, and_true, true_and, and_false, false_and, eq_T, eq_F, lt_T, lt_F, le_T, le_F, qn_T, qn_F, and_F, b01_T, b01_F, e_isIn, Int32.toInt_toInt64, am_i_toInt, am_l_toInt, Int.toNat_natCast, Int.reduceToNat, Int.reduceAdd, Int.reduceSub, Int.reduceMul, Int.reduceNeg, Nat.reduceAdd, Nat.reduceMul, Nat.add_zero, Nat.mul_zero, Nat.zero_add, am_zb0, am_zb1, rC hx hc, b2, b3]
      obtain ⟨s', I', r1, r2, r3, r4, r5⟩ := x_fillO hx h2 hc hsz hO m (g + 1) s I (by omega) (by omega) h8 (fun f hf h => hQ f hf (by
        rcases h with h | h
        · by_cases z : f = g
          · right; rw [z, hq]; rfl
          · left; omega
        · exact Or.inr h)) (fun f hf h => hN f hf (by omega))
      refine ⟨s', I', ?_, r2, r3, r4, r5⟩
      rw [← r1, sg_X10_fillIn_2]
      simp (disch := first | assumption | omega) only [rX hx, ly_csx, ly_cax, ly_cf, ly_kd, ly_ln, ↓Bool.cond_decide, cond_true, cond_false, ↓bI_p, ↓bV_p, ↓bL_p, bIJ_s, bVJ_s, bLJ_s, ↓am_let_s, Nat.blt, Nat.ble, Bool.and_true, Bool.true_and, Bool.and_self, Int.cast_ofNat_Int, am_i_add, am_i_sub, am_i_mul, am_ok_i, am_i_cl, n_lt, n_le, n_eq, n_lt0, n_le0, n_0lt, n_0le, n_eq0, ne_eq, ↓reduceIte, not_true_eq_false, not_false_eq_true, and_true, true_and, and_false, false_and, eq_T, eq_F, lt_T, lt_F, le_T, le_F, qn_T, qn_F, and_F, b01_T, b01_F, e_isIn, Int32.toInt_toInt64, am_i_toInt, am_l_toInt, Int.toNat_natCast, Int.reduceToNat, Int.reduceAdd, Int.reduceSub, Int.reduceMul, Int.reduceNeg, Nat.reduceAdd, Nat.reduceMul, Nat.add_zero, Nat.mul_zero, Nat.zero_add, am_zb0, am_zb1, h2, rC hx hc, td, sg_X10_fillIn_58, am_i_s]
    | none =>
      obtain ⟨n1, n2⟩ := hN g g3 (Nat.le_refl _) hq
      have td : ∀ d, am_E (d + 1) 5 0 [(0, .ref c), (1, .int (am_i g))] [] (I, J, R, 138) = some (some (.int (am_i 0)), (I, J, R, 138)) := fun d => by
        rw [sg_X1_isTold_0]
        simp (disch := first | assumption | omega) only [rX hx, ly_csx, ly_cax, ly_cf, ly_kd, ly_ln, ↓Bool.cond_decide, cond_true, cond_false, ↓bI_p, ↓bV_p, ↓bL_p, bIJ_s, bVJ_s, bLJ_s, ↓am_let_s, Nat.blt, Nat.ble, Bool.and_true, Bool.true_and, Bool.and_self, Int.cast_ofNat_Int, am_i_add, am_i_sub, am_i_mul, am_ok_i, am_i_cl, n_lt, n_le, n_eq, n_lt0, n_le0, n_0lt, n_0le, n_eq0, ne_eq, ↓reduceIte, not_true_eq_false, not_false_eq_true, and_true, true_and, and_false, false_and, eq_T, eq_F, lt_T, lt_F, le_T, le_F, qn_T, qn_F, and_F, b01_T, b01_F, e_isIn, Int32.toInt_toInt64, am_i_toInt, am_l_toInt, Int.toNat_natCast, Int.reduceToNat, Int.reduceAdd, Int.reduceSub, Int.reduceMul, Int.reduceNeg, Nat.reduceAdd, Nat.reduceMul, Nat.add_zero, Nat.mul_zero, Nat.zero_add, am_zb0, am_zb1, rC hx hc, n1, n2]
      obtain ⟨K1, hK1⟩ : ∃ K1, K1 = am_up I (c + 8) g (am_i s) := ⟨_, rfl⟩
      have wo := fun d => x_without (d := d) (J := J) (I := K1) hx g3 (by rw [hK1, am_up_o (by omega)]; exact h8) (by omega)
      obtain ⟨K2, hK2⟩ : ∃ K2, K2 = am_up (am_up K1 9 s (am_i (encX ((frD g).headD (0, 0))))) 8 2 (am_i (s + 1 : Nat)) := ⟨_, rfl⟩
      rw [← hK2] at wo
      obtain ⟨K3, hK3⟩ : ∃ K3, K3 = am_up K2 (c + 9) g (am_i (s + 1 : Nat)) := ⟨_, rfl⟩
      have k82 : K2 8 2 = am_i (s + 1 : Nat) := by rw [hK2, am_up_e]
      have o3 : ∀ q j, ¬ (q = c + 8 ∧ j = g) → ¬ (q = c + 9 ∧ j = g) → ¬ (q = 9 ∧ j = s) → ¬ (q = 8 ∧ j = 2) → K3 q j = I q j := fun q j e1 e2 e3 e4 => by rw [hK3, am_up_o e2, hK2, am_up_o e4, am_up_o e3, hK1, am_up_o e1]
      obtain ⟨s', I', r1, r2, r3, r4, r5⟩ := x_fillO hx h2 hc hsz hO m (g + 1) (s + 1) K3 (by omega) (by omega) (by rw [hK3, am_up_o (by omega)]; exact k82) (fun f hf h => by
        by_cases z : f = g
        · subst z
          refine ⟨s, by rw [fmX_n hq, frD_1]; exact Nat.le_refl _, ?_, ?_, fun k t ht => ?_⟩
          · rw [hK3, am_up_o (by omega), hK2, am_up_o (by omega), am_up_o (by omega), hK1, am_up_e]
          · rw [fmX_n hq, frD_1, hK3, am_up_e]
          · rw [fmX_n hq] at ht
            have hk : k = 0 := by have := (List.getElem?_eq_some_iff.mp ht).1; rw [frD_1] at this; omega
            subst hk
            have et : (frD f).headD (0, 0) = t := by
              have : (frD f)[0]? = some ((frD f).headD (0, 0)) := rfl
              rw [this] at ht
              exact Option.some.inj ht
            rw [Nat.add_zero, hK3, am_up_o (by omega), hK2, am_up_o (by omega), am_up_e, et]
        · have := hQ f hf (by
            rcases h with h | h
            · left; omega
            · exact Or.inr h)
          obtain ⟨a, b1, b2, b3, b4⟩ := this
          refine ⟨a, by omega, by rw [o3 _ _ (by omega) (by omega) (by omega) (by omega)]; exact b2, by rw [o3 _ _ (by omega) (by omega) (by omega) (by omega)]; exact b3, fun k t ht => ?_⟩
          have hk := (List.getElem?_eq_some_iff.mp ht).1
          rw [o3 _ _ (by omega) (by omega) (by omega) (by omega)]
          exact b4 k t ht) (fun f hf h1 h2' => by
        rw [o3 _ _ (by omega) (by omega) (by omega) (by omega), o3 _ _ (by omega) (by omega) (by omega) (by omega)]
        exact hN f hf (by omega) h2')
      refine ⟨s', I', ?_, r2, r3, r4, fun q j e => by rw [r5 q j e, o3 q j (by omega) (by omega) (by omega) (by omega)]⟩
      rw [← r1, sg_X10_fillIn_2]
      simp (disch := first | assumption | omega) only [rX hx, ly_csx, ly_cax, ly_cf, ly_kd, ly_ln, ↓Bool.cond_decide, cond_true, cond_false, ↓bI_p, ↓bV_p, ↓bL_p, bIJ_s, bVJ_s, bLJ_s, ↓am_let_s, Nat.blt, Nat.ble, Bool.and_true, Bool.true_and, Bool.and_self, Int.cast_ofNat_Int, am_i_add, am_i_sub, am_i_mul, am_ok_i, am_i_cl, n_lt, n_le, n_eq, n_lt0, n_le0, n_0lt, n_0le, n_eq0, ne_eq, ↓reduceIte, not_true_eq_false, not_false_eq_true, and_true, true_and, and_false, false_and, eq_T, eq_F, lt_T, lt_F, le_T, le_F, qn_T, qn_F, and_F, b01_T, b01_F, e_isIn, Int32.toInt_toInt64, am_i_toInt, am_l_toInt, Int.toNat_natCast, Int.reduceToNat, Int.reduceAdd, Int.reduceSub, Int.reduceMul, Int.reduceNeg, Nat.reduceAdd, Nat.reduceMul, Nat.add_zero, Nat.mul_zero, Nat.zero_add, am_zb0, am_zb1, h2, rC hx hc, rCa hc, td, h8, ← hK1, wo, k82, ← hK3, sg_X10_fillIn_58, am_i_s]
/-- behind a fault -/
theorem x_fillF (hx : st_Rx R) (h2 : R 30 2 = c) (hc : c = 10 ∨ c = 20) {e pl : Nat} : ∀ (m g : Nat) (I : tI), g + m = 3 → ftX e pl I → ∃ I', am_E (d + 3) 91 2 [(0, .ref 30), (1, .int (am_i g))] [] (I, J, R, 138) = some (none, (I', J, R, 138)) ∧ ftX e pl I' ∧ xF c I I'
  | 0, g, I, hg, hF => by
    obtain rfl : g = 3 := by omega
    refine ⟨I, ?_, hF, fun _ _ _ => rfl⟩
    rw [sg_X10_fillIn_2]
    simp (disch := first | assumption | omega) only [rX hx, ly_csx, ly_cax, ly_cf, ly_kd, ly_ln, ↓Bool.cond_decide, cond_true, cond_false, ↓bI_p, ↓bV_p, ↓bL_p, bIJ_s, bVJ_s, bLJ_s, ↓am_let_s, Nat.blt, Nat.ble, Bool.and_true, Bool.true_and, Bool.and_self, Int.cast_ofNat_Int, am_i_add, am_i_sub, am_i_mul, am_ok_i, am_i_cl, n_lt, n_le, n_eq, n_lt0, n_le0, n_0lt, n_0le, n_eq0, ne_eq, ↓reduceIte, not_true_eq_false, not_false_eq_true, and_true, true_and, and_false, false_and, eq_T, eq_F, lt_T, lt_F, le_T, le_F, qn_T, qn_F, and_F, b01_T, b01_F, e_isIn, Int32.toInt_toInt64, am_i_toInt, am_l_toInt, Int.toNat_natCast, Int.reduceToNat, Int.reduceAdd, Int.reduceSub, Int.reduceMul, Int.reduceNeg, Nat.reduceAdd, Nat.reduceMul, Nat.add_zero, Nat.mul_zero, Nat.zero_add, am_zb0, am_zb1]
  | m + 1, g, I, hg, hF => by
    have g3 : g < 3 := by omega
    by_cases q : I (c + 9) g ≤ I (c + 8) g
    · have td : ∀ d, am_E (d + 1) 5 0 [(0, .ref c), (1, .int (am_i g))] [] (I, J, R, 138) = some (some (.int (am_i 0)), (I, J, R, 138)) := fun d => by
        rw [sg_X1_isTold_0]
        simp (disch := first | assumption | omega) only [rX hx, ly_csx, ly_cax, ly_cf, ly_kd, ly_ln, ↓Bool.cond_decide, cond_true, cond_false, ↓bI_p, ↓bV_p, ↓bL_p, bIJ_s, bVJ_s, bLJ_s, ↓am_let_s, Nat.blt, Nat.ble, Bool.and_true, Bool.true_and, Bool.and_self, Int.cast_ofNat_Int, am_i_add, am_i_sub, am_i_mul, am_ok_i, am_i_cl, n_lt, n_le, n_eq, n_lt0, n_le0, n_0lt, n_0le, n_eq0, ne_eq, ↓reduceIte, not_true_eq_false, not_false_eq_true, and_true, true_and, and_false, false_and, eq_T, eq_F, lt_T, lt_F, le_T, le_F, qn_T, qn_F, and_F, b01_T, b01_F, e_isIn, Int32.toInt_toInt64, am_i_toInt, am_l_toInt, Int.toNat_natCast, Int.reduceToNat, Int.reduceAdd, Int.reduceSub, Int.reduceMul, Int.reduceNeg, Nat.reduceAdd, Nat.reduceMul, Nat.add_zero, Nat.mul_zero, Nat.zero_add, am_zb0, am_zb1, rC hx hc, q]
      obtain ⟨K1, hK1⟩ : ∃ K1, K1 = am_up I (c + 8) g (I 8 2) := ⟨_, rfl⟩
      have F1 : ftX e pl K1 := by
        obtain ⟨⟨x1, x2, x3⟩, ⟨s, s1, s2⟩, a, a1, a2⟩ := hF
        exact ⟨⟨by rw [hK1, am_up_o (by omega)]; exact x1, by rw [hK1, am_up_o (by omega)]; exact x2, by rw [hK1, am_up_o (by omega)]; exact x3⟩, ⟨s, s1, by rw [hK1, am_up_o (by omega)]; exact s2⟩, a, a1, by rw [hK1, am_up_o (by omega)]; exact a2⟩
      obtain ⟨v, hv⟩ : ∃ v : Int32, ∀ (d : Nat) (K2 : tI), (∀ d, am_E (d + 1) 18 0 [(0, .ref 8), (1, .int v)] [] (K1, J, R, 138) = some (none, (K2, J, R, 138))) → am_E (d + 2) 16 0 [(0, .ref 8), (1, .int (am_i g))] [] (K1, J, R, 138) = some (none, (K2, J, R, 138)) := by
        have f3 : g = 0 ∨ g = 1 ∨ g = 2 := by omega
        rcases f3 with rfl | rfl | rfl
        · refine ⟨am_i 1, fun d K2 h => ?_⟩
          rw [sg_X3_addWithout_0]
          simp (disch := first | assumption | omega) only [rX hx, ly_csx, ly_cax, ly_cf, ly_kd, ly_ln, ↓Bool.cond_decide, cond_true, cond_false, ↓bI_p, ↓bV_p, ↓bL_p, bIJ_s, bVJ_s, bLJ_s, ↓am_let_s, Nat.blt, Nat.ble, Bool.and_true, Bool.true_and, Bool.and_self, Int.cast_ofNat_Int, am_i_add, am_i_sub, am_i_mul, am_ok_i, am_i_cl, n_lt, n_le, n_eq, n_lt0, n_le0, n_0lt, n_0le, n_eq0, ne_eq, ↓reduceIte, not_true_eq_false, not_false_eq_true, and_true, true_and, and_false, false_and, eq_T, eq_F, lt_T, lt_F, le_T, le_F, qn_T, qn_F, and_F, b01_T, b01_F, e_isIn, Int32.toInt_toInt64, am_i_toInt, am_l_toInt, Int.toNat_natCast, Int.reduceToNat, Int.reduceAdd, Int.reduceSub, Int.reduceMul, Int.reduceNeg, Nat.reduceAdd, Nat.reduceMul, Nat.add_zero, Nat.mul_zero, Nat.zero_add, am_zb0, am_zb1, h, sg_X3_addWithout_51]
        · refine ⟨am_i 10003, fun d K2 h => ?_⟩
          rw [sg_X3_addWithout_0]
          simp (disch := first | assumption | omega) only [rX hx, ly_csx, ly_cax, ly_cf, ly_kd, ly_ln, ↓Bool.cond_decide, cond_true, cond_false, ↓bI_p, ↓bV_p, ↓bL_p, bIJ_s, bVJ_s, bLJ_s, ↓am_let_s, Nat.blt, Nat.ble, Bool.and_true, Bool.true_and, Bool.and_self, Int.cast_ofNat_Int, am_i_add, am_i_sub, am_i_mul, am_ok_i, am_i_cl, n_lt, n_le, n_eq, n_lt0, n_le0, n_0lt, n_0le, n_eq0, ne_eq, ↓reduceIte, not_true_eq_false, not_false_eq_true, and_true, true_and, and_false, false_and, eq_T, eq_F, lt_T, lt_F, le_T, le_F, qn_T, qn_F, and_F, b01_T, b01_F, e_isIn, Int32.toInt_toInt64, am_i_toInt, am_l_toInt, Int.toNat_natCast, Int.reduceToNat, Int.reduceAdd, Int.reduceSub, Int.reduceMul, Int.reduceNeg, Nat.reduceAdd, Nat.reduceMul, Nat.add_zero, Nat.mul_zero, Nat.zero_add, am_zb0, am_zb1, h, sg_X3_addWithout_51]
        · refine ⟨am_i 0, fun d K2 h => ?_⟩
          rw [sg_X3_addWithout_0]
          simp (disch := first | assumption | omega) only [rX hx, ly_csx, ly_cax, ly_cf, ly_kd, ly_ln, ↓Bool.cond_decide, cond_true, cond_false, ↓bI_p, ↓bV_p, ↓bL_p, bIJ_s, bVJ_s, bLJ_s, ↓am_let_s, Nat.blt, Nat.ble, Bool.and_true, Bool.true_and, Bool.and_self, Int.cast_ofNat_Int, am_i_add, am_i_sub, am_i_mul, am_ok_i, am_i_cl, n_lt, n_le, n_eq, n_lt0, n_le0, n_0lt, n_0le, n_eq0, ne_eq, ↓reduceIte, not_true_eq_false, not_false_eq_true, and_true, true_and, and_false, false_and, eq_T, eq_F, lt_T, lt_F, le_T, le_F, qn_T, qn_F, and_F, b01_T, b01_F, e_isIn, Int32.toInt_toInt64, am_i_toInt, am_l_toInt, Int.toNat_natCast, Int.reduceToNat, Int.reduceAdd, Int.reduceSub, Int.reduceMul, Int.reduceNeg, Nat.reduceAdd, Nat.reduceMul, Nat.add_zero, Nat.mul_zero, Nat.zero_add, am_zb0, am_zb1, h, sg_X3_addWithout_51]
      obtain ⟨K2, c1, c2, c3, c4⟩ := x_emitF (J := J) (v := v) hx F1
      have wo := fun d => hv d K2 c1
      obtain ⟨K3, hK3⟩ : ∃ K3, K3 = am_up K2 (c + 9) g (K2 8 2) := ⟨_, rfl⟩
      have F3 : ftX e pl K3 := by
        obtain ⟨⟨x1, x2, x3⟩, ⟨s, s1, s2⟩, a, a1, a2⟩ := c2
        exact ⟨⟨by rw [hK3, am_up_o (by omega)]; exact x1, by rw [hK3, am_up_o (by omega)]; exact x2, by rw [hK3, am_up_o (by omega)]; exact x3⟩, ⟨s, s1, by rw [hK3, am_up_o (by omega)]; exact s2⟩, a, a1, by rw [hK3, am_up_o (by omega)]; exact a2⟩
      obtain ⟨I', r1, r2, r3⟩ := x_fillF hx h2 hc m (g + 1) K3 (by omega) F3
      refine ⟨I', ?_, r2, fun q j z => ?_⟩
      · rw [← r1, sg_X10_fillIn_2]
        simp (disch := first | assumption | omega) only [rX hx, ly_csx, ly_cax, ly_cf, ly_kd, ly_ln, ↓Bool.cond_decide, cond_true, cond_false, ↓bI_p, ↓bV_p, ↓bL_p, bIJ_s, bVJ_s, bLJ_s, ↓am_let_s, Nat.blt, Nat.ble, Bool.and_true, Bool.true_and, Bool.and_self, Int.cast_ofNat_Int, am_i_add, am_i_sub, am_i_mul, am_ok_i, am_i_cl, n_lt, n_le, n_eq, n_lt0, n_le0, n_0lt, n_0le, n_eq0, ne_eq, ↓reduceIte, not_true_eq_false, not_false_eq_true, and_true, true_and, and_false, false_and, eq_T, eq_F, lt_T, lt_F, le_T, le_F, qn_T, qn_F, and_F, b01_T, b01_F, e_isIn, Int32.toInt_toInt64, am_i_toInt, am_l_toInt, Int.toNat_natCast, Int.reduceToNat, Int.reduceAdd, Int.reduceSub, Int.reduceMul, Int.reduceNeg, Nat.reduceAdd, Nat.reduceMul, Nat.add_zero, Nat.mul_zero, Nat.zero_add, am_zb0, am_zb1, h2, rC hx hc, rCa hc, td, ← hK1, wo, ← hK3, sg_X10_fillIn_58, am_i_s]
      · rw [r3 q j z, hK3, am_up_o (by omega), c3.2 q j (by omega) (by omega) (by omega), hK1, am_up_o (by omega)]
    · have td : ∀ d, am_E (d + 1) 5 0 [(0, .ref c), (1, .int (am_i g))] [] (I, J, R, 138) = some (some (.int (am_i 1)), (I, J, R, 138)) := fun d => by
        rw [sg_X1_isTold_0]
        simp (disch := first | assumption | omega) only [rX hx, ly_csx, ly_cax, ly_cf, ly_kd, ly_ln, ↓Bool.cond_decide, cond_true, cond_false, ↓bI_p, ↓bV_p, ↓bL_p, bIJ_s, bVJ_s, bLJ_s, ↓am_let_s, Nat.blt, Nat.ble, Bool.and_true, Bool.true_and, Bool.and_self, Int.cast_ofNat_Int, am_i_add, am_i_sub, am_i_mul, am_ok_i, am_i_cl, n_lt, n_le, n_eq, n_lt0, n_le0, n_0lt, n_0le, n_eq0, ne_eq, ↓reduceIte, not_true_eq_false, not_false_eq_true, and_true, true_and, and_false, false_and, eq_T, eq_F, lt_T, lt_F, le_T, le_F, qn_T, qn_F, and_F, b01_T, b01_F, e_isIn, Int32.toInt_toInt64, am_i_toInt, am_l_toInt, Int.toNat_natCast, Int.reduceToNat, Int.reduceAdd, Int.reduceSub, Int.reduceMul, Int.reduceNeg, Nat.reduceAdd, Nat.reduceMul, Nat.add_zero, Nat.mul_zero, Nat.zero_add, am_zb0, am_zb1, rC hx hc, q]
      obtain ⟨I', r1, r2, r3⟩ := x_fillF hx h2 hc m (g + 1) I (by omega) hF
      refine ⟨I', ?_, r2, r3⟩
      rw [← r1, sg_X10_fillIn_2]
      simp (disch := first | assumption | omega) only [rX hx, ly_csx, ly_cax, ly_cf, ly_kd, ly_ln, ↓Bool.cond_decide, cond_true, cond_false, ↓bI_p, ↓bV_p, ↓bL_p, bIJ_s, bVJ_s, bLJ_s, ↓am_let_s, Nat.blt, Nat.ble, Bool.and_true, Bool.true_and, Bool.and_self, Int.cast_ofNat_Int, am_i_add, am_i_sub, am_i_mul, am_ok_i, am_i_cl, n_lt, n_le, n_eq, n_lt0, n_le0, n_0lt, n_0le, n_eq0, ne_eq, ↓reduceIte, not_true_eq_false, not_false_eq_true, and_true, true_and, and_false, false_and, eq_T, eq_F, lt_T, lt_F, le_T, le_F, qn_T, qn_F, and_F, b01_T, b01_F, e_isIn, Int32.toInt_toInt64, am_i_toInt, am_l_toInt, Int.toNat_natCast, Int.reduceToNat, Int.reduceAdd, Int.reduceSub, Int.reduceMul, Int.reduceNeg, Nat.reduceAdd, Nat.reduceMul, Nat.add_zero, Nat.mul_zero, Nat.zero_add, am_zb0, am_zb1, h2, rC hx hc, td, sg_X10_fillIn_58, am_i_s]
theorem cy_9 {s : Nat} (hc : c = 10 ∨ c = 20) (hs : s ≤ 1600) : am_cy 138 9 (am_i 0) (c + 7) (am_i 0) (am_i s) = true := by
  rcases hc with rfl | rfl
  · exact cy_g (a0 := 9) (a := 17) (n0 := 1600) (n := 1600) (sp := 0) (dp := 0) (k := s) (by decide) (by decide) (by decide) (by decide) (by omega) (by omega) (by decide) (by decide)
  · exact cy_g (a0 := 9) (a := 27) (n0 := 1600) (n := 1600) (sp := 0) (dp := 0) (k := s) (by decide) (by decide) (by decide) (by decide) (by omega) (by omega) (by decide) (by decide)
/-- the end of read: all formulas there -/
theorem x_r138 (hx : st_Rx R) (h2 : R 30 2 = c) (hc : c = 10 ∨ c = 20) (hX : xCh c X I) (hO : sOK n p i X) (hn : n ≤ 1600) {cnt : Nat} (hcn : 1 ≤ cnt) (hc1 : cnt ≤ 81) : ∃ I', am_E (d + 4) 90 146 [(0, .ref 30), (2, .int (am_i cnt))] [] (I, J, R, 138) = some (some (.int (am_i cnt)), (I', J, R, 138)) ∧ xHd c X I' ∧ (∀ f, f < 3 → frX I' c f (fmX X f)) ∧ ∀ q j, ¬ ((q = 8 ∧ j = 2) ∨ q = 9 ∨ (c ≤ q ∧ q ≤ c + 9)) → I' q j = I q j := by
  have sz := hO.1.2.2.2.2.2.2.2
  obtain ⟨x1, x2, x3, x4, x5, x6, x7⟩ := hX
  obtain ⟨s, I1, a1, a2, a3, a4, a5⟩ := x_fillO (d := d) (J := J) (X := X) hx h2 hc (by omega) (fun f a l e => (hO.2.2.2.2.2 f a l e).2.1) 3 0 X.sz I (by omega) (by omega) x7 (fun f hf h => by
    rcases h with h | h
    · omega
    · cases hq : X.fo f with
      | none => rw [hq] at h; cases h
      | some al =>
        obtain ⟨a, l⟩ := al
        obtain ⟨b1, b2, b3⟩ := (x6 f hf).2 a l hq
        have c1 := (hO.2.2.2.2.2 f a l hq).1
        refine ⟨a, ?_, b1, ?_, ?_⟩
        · rw [fmX_s hq]; exact c1
        · rw [fmX_s hq]; exact b2
        · rw [fmX_s hq]; exact b3) (fun f hf h1 h2' => (x6 f hf).1 h2')
  have a1' : am_E (d + 3) 91 0 [(0, .ref 30)] [] (I, J, R, 138) = some (none, (I1, J, R, 138)) := by
    rw [sg_X10_fillIn_0]
    exact a1
  have s16 : s ≤ 1600 := by omega
  have cy := cy_9 (c := c) hc s16
  refine ⟨am_cp I1 9 0 (c + 7) 0 s, ?_, ?_, fun f hf => ?_, fun q j e => ?_⟩
  · rw [sg_X10_read_146]
    simp (disch := first | assumption | omega) only [rX hx, ly_csx, ly_cax, ly_cf, ly_kd, ly_ln, ↓Bool.cond_decide, cond_true, cond_false, ↓bI_p, ↓bV_p, ↓bL_p, bIJ_s, bVJ_s, bLJ_s, ↓am_let_s, Nat.blt, Nat.ble, Bool.and_true, Bool.true_and, Bool.and_self, Int.cast_ofNat_Int, am_i_add, am_i_sub, am_i_mul, am_ok_i, am_i_cl, n_lt, n_le, n_eq, n_lt0, n_le0, n_0lt, n_0le, n_eq0, ne_eq, ↓reduceIte, not_true_eq_false, not_false_eq_true, and_true, true_and, and_false, false_and, eq_T, eq_F, lt_T, lt_F, le_T, le_F, qn_T, qn_F, and_F, b01_T, b01_F, e_isIn, Int32.toInt_toInt64, am_i_toInt, am_l_toInt, Int.toNat_natCast, Int.reduceToNat, Int.reduceAdd, Int.reduceSub, Int.reduceMul, Int.reduceNeg, Nat.reduceAdd, Nat.reduceMul, Nat.add_zero, Nat.mul_zero, Nat.zero_add, am_zb0, am_zb1, sg_X10_read_157, a1', h2, rC hx hc, a3, cy]
  · refine xHd_c (I := I) ⟨x1, x2, x3, x4, x5⟩ (fun q j e => ?_)
    rw [am_cp_ap, if_neg (by omega), a5 q j (by omega)]
  · obtain ⟨a, b1, b2, b3, b4⟩ := a4 f hf
    refine ⟨a, by omega, ?_, ?_, fun k t ht => ?_⟩
    · rw [am_cp_ap, if_neg (by omega)]; exact b2
    · rw [am_cp_ap, if_neg (by omega)]; exact b3
    · have hk := (List.getElem?_eq_some_iff.mp ht).1
      rw [am_cp_ap, if_pos rfl]
      unfold va_cpy
      rw [if_pos (by omega), Nat.sub_zero, Nat.zero_add]
      exact b4 k t ht
  · rw [am_cp_ap, if_neg (by omega), a5 q j (by omega)]
theorem x_r138F (hx : st_Rx R) (h2 : R 30 2 = c) (hc : c = 10 ∨ c = 20) {e pl : Nat} (hF : ftX e pl I) : ∃ I', (∀ v, am_E (d + 4) 90 157 [(0, .ref 30), (2, .int v)] [] (I, J, R, 138) = some (some (.int v), (I', J, R, 138))) ∧ I' 5 10 = am_i e ∧ I' 5 11 = am_i pl ∧ xF c I I' := by
  obtain ⟨I1, a1, a2, a3⟩ := x_fillF (d := d) (J := J) hx h2 hc (e := e) (pl := pl) 3 0 I (by omega) hF
  have a1' : am_E (d + 3) 91 0 [(0, .ref 30)] [] (I, J, R, 138) = some (none, (I1, J, R, 138)) := by
    rw [sg_X10_fillIn_0]
    exact a1
  obtain ⟨⟨x1, x2, x3⟩, ⟨s, s1, s2⟩, a, -, -⟩ := a2
  have cy := cy_9 (c := c) hc s1
  refine ⟨am_cp I1 9 0 (c + 7) 0 s, fun v => ?_, ?_, ?_, fun q j z => ?_⟩
  · rw [sg_X10_read_157]
    simp (disch := first | assumption | omega) only [rX hx, ly_csx, ly_cax, ly_cf, ly_kd, ly_ln, ↓Bool.cond_decide, cond_true, cond_false, ↓bI_p, ↓bV_p, ↓bL_p, bIJ_s, bVJ_s, bLJ_s, ↓am_let_s, Nat.blt, Nat.ble, Bool.and_true, Bool.true_and, Bool.and_self, Int.cast_ofNat_Int, am_i_add, am_i_sub, am_i_mul, am_ok_i, am_i_cl, n_lt, n_le, n_eq, n_lt0, n_le0, n_0lt, n_0le, n_eq0, ne_eq, ↓reduceIte, not_true_eq_false, not_false_eq_true, and_true, true_and, and_false, false_and, eq_T, eq_F, lt_T, lt_F, le_T, le_F, qn_T, qn_F, and_F, b01_T, b01_F, e_isIn, Int32.toInt_toInt64, am_i_toInt, am_l_toInt, Int.toNat_natCast, Int.reduceToNat, Int.reduceAdd, Int.reduceSub, Int.reduceMul, Int.reduceNeg, Nat.reduceAdd, Nat.reduceMul, Nat.add_zero, Nat.mul_zero, Nat.zero_add, am_zb0, am_zb1, a1', h2, rC hx hc, s2, cy]
  · rw [am_cp_ap, if_neg (by omega)]; exact x2
  · rw [am_cp_ap, if_neg (by omega)]; exact x3
  · rw [am_cp_ap, if_neg (by omega), a3 q j z]
end XFI
