/-! ===== the sound that is being told: the reference ===== -/
def mCh (X : sSt) (I : tI) (J : tJ) : Prop :=
  (I 93 0 = am_i X.la ∧ I 93 1 = am_i X.wd ∧ I 93 2 = am_i X.sq ∧ I 94 0 = am_i X.bn.length ∧ I 94 1 = am_i X.rd.length ∧ I 94 2 = am_i X.nw) ∧
  (∀ (b : Nat) (x : sBo), X.bn[b]? = some x → J 95 b = am_l (pk27 x.nm : Nat) ∧ I 96 (4 * b) = am_i x.mi ∧ I 96 (4 * b + 1) = am_i x.ti ∧ I 96 (4 * b + 2) = am_i x.ro ∧ I 96 (4 * b + 3) = am_i x.sc.length ∧ ∀ (k v : Nat), x.sc[k]? = some v → I 97 (6 * b + k) = am_i v) ∧
  (∀ (r : Nat) (y : List Nat × Nat), X.rd[r]? = some y → J 95 (8 + r) = am_l (pk27 y.1 : Nat) ∧ I 98 r = am_i y.2) ∧
  (∀ m v, m ≤ 60 → v < 8 → I 99 (8 * m + v) = am_i (X.wf m / 2 ^ v % 2 : Nat)) ∧
  (∀ f, f < 3 → (X.fo f = none → I 100 f = am_i (-1)) ∧ ∀ a l, X.fo f = some (a, l) → I 100 f = am_i a ∧ I 101 f = am_i (a + l.length : Nat) ∧ ∀ (k : Nat) (t : tok), l[k]? = some t → I 102 (a + k) = am_i (encM t)) ∧ I 64 48 = am_i X.sz
/-- what may change while a sound is told -/
def mW (q j : Nat) : Prop := (q = 93 ∧ j < 3) ∨ (q = 94 ∧ j < 3) ∨ (q = 96 ∧ j < 24) ∨ q = 97 ∨ (q = 98 ∧ j < 6) ∨ (q = 99 ∧ j < 488) ∨ ((q = 100 ∨ q = 101) ∧ j < 3) ∨ (q = 102 ∧ j < 1600) ∨ q = 134 ∨ q = 135 ∨ (q = 64 ∧ (j = 2 ∨ j = 4 ∨ j = 5 ∨ j = 6 ∨ j = 10 ∨ j = 37 ∨ j = 48 ∨ j = 51 ∨ j = 95 ∨ j = 97 ∨ j = 98 ∨ j = 99))
def mF (I I' : tI) : Prop := ∀ q j, ¬ mW q j → I' q j = I q j
def mK (J J' : tJ) : Prop := ∀ q j, ¬ (q = 95 ∧ j < 16) → J' q j = J q j
def mQ (T : Nat → Nat) (n : Nat) (r : sRs) (I : tI) (J : tJ) : Prop := mR T n (r.1, r.2.1) I ∧ (r.1 = 0 → mCh r.2.2 I J)
def mBb (T : Nat → Nat) (n p i : Nat) (X : sSt) (I : tI) (J : tJ) : Prop := txM T n I ∧ mrX T n p I ∧ mCh X I J ∧ sOK n p i X
theorem mCh_c {X : sSt} {I I' : tI} {J J' : tJ} (h : mCh X I J) (e : ∀ q j, (93 ≤ q ∧ q ≤ 102) ∨ (q = 64 ∧ j = 48) → I' q j = I q j) (eJ : ∀ j, J' 95 j = J 95 j) : mCh X I' J' := by
  obtain ⟨⟨a0, a1, a2, a3, a4, a5⟩, hb, hr, hw, hf, h8⟩ := h
  have g : ∀ q j, 93 ≤ q → q ≤ 102 → I' q j = I q j := fun q j h1 h2 => e q j (Or.inl ⟨h1, h2⟩)
  refine ⟨⟨by rw [g _ _ (by omega) (by omega)]; exact a0, by rw [g _ _ (by omega) (by omega)]; exact a1, by rw [g _ _ (by omega) (by omega)]; exact a2, by rw [g _ _ (by omega) (by omega)]; exact a3, by rw [g _ _ (by omega) (by omega)]; exact a4, by rw [g _ _ (by omega) (by omega)]; exact a5⟩, fun b x hx => ?_, fun r y hy => ?_, fun m v hm hv => by rw [g _ _ (by omega) (by omega)]; exact hw m v hm hv, fun f hf3 => ⟨fun q => by rw [g _ _ (by omega) (by omega)]; exact (hf f hf3).1 q, fun a l q => ?_⟩, by rw [e _ _ (Or.inr ⟨rfl, rfl⟩)]; exact h8⟩
  · obtain ⟨b1, b2, b3, b4, b5, b6⟩ := hb b x hx
    exact ⟨by rw [eJ]; exact b1, by rw [g _ _ (by omega) (by omega)]; exact b2, by rw [g _ _ (by omega) (by omega)]; exact b3, by rw [g _ _ (by omega) (by omega)]; exact b4, by rw [g _ _ (by omega) (by omega)]; exact b5, fun k v hv => by rw [g _ _ (by omega) (by omega)]; exact b6 k v hv⟩
  · rw [eJ, g _ _ (by omega) (by omega)]
    exact hr r y hy
  · obtain ⟨c1, c2, c3⟩ := (hf f hf3).2 a l q
    exact ⟨by rw [g _ _ (by omega) (by omega)]; exact c1, by rw [g _ _ (by omega) (by omega)]; exact c2, fun k t ht => by rw [g _ _ (by omega) (by omega)]; exact c3 k t ht⟩
section MCH
variable {d : Nat} {J : tJ} {R : tR} {T : Nat → Nat} {n p i : Nat} {I I' : tI} {r : Nat × Nat} {X : sSt}
theorem mF_m (h : ∀ q k, ¬ mlC q k → I' q k = I q k) : mF I I' := fun q j e => h q j (by unfold mW at e; unfold mlC; omega)
theorem mF_t {I'' : tI} (h : mF I I') (h2 : mF I' I'') : mF I I'' := fun q j e => by rw [h2 q j e, h q j e]
theorem mF_r : mF I I := fun _ _ _ => rfl
theorem mCh_m {J' : tJ} (h : mCh X I J) (e : ∀ q k, ¬ mlC q k → I' q k = I q k) (eJ : J' = J) : mCh X I' J' := mCh_c h (fun q j z => e q j (by unfold mlC; omega)) (fun j => by rw [eJ])
theorem nOK_l {l k : List Nat} (h : nOK l) (h2 : nOK k) : (lg_cmp (am_l (pk27 l : Nat)) (am_l (pk27 k : Nat)) = 0) = (l = k) := by
  have b1 := pk27_b h.2.1 (fun x hx => (h.2.2 x hx).2)
  have b2 := pk27_b h2.2.1 (fun x hx => (h2.2.2 x hx).2)
  have e : (27 : Nat) ^ 6 = 387420489 := by decide
  rw [lc_eq (by omega) (by omega) (by omega) (by omega)]
  apply propext
  constructor
  · intro q; exact pk27_i 6 l k h.2.1 h.2.2 h2.2.2 (by omega)
  · rintro rfl; rfl
/-- behind a failure names aren't looked at -/
theorem m_nnF (hm : st_Rm R) {a L : Nat} {v : Int64} (ha : a ≤ 1) (hL : L ≤ 6) (h5 : (I 64 5 = 0) = False) (h94 : I 94 a = am_i L) : ∀ (m j : Nat), j + m = L → am_E (d + 2) 181 15 [(0, .ref 64), (1, .long v), (3, .int (am_i a)), (4, .int (am_i j))] [] (I, J, R, 138) = am_E (d + 2) 181 7 [(0, .ref 64), (1, .long v), (3, .int (am_i (a + 1 : Nat)))] [] (I, J, R, 138)
  | 0, j, hj => by
    obtain rfl : j = L := by omega
    rw [sg_X12_newName_15]
    simp (disch := first | assumption | omega) only [rM hm, ly_csm, ly_cam, ly_cf, ly_kd, ly_ln, ↓Bool.cond_decide, cond_true, cond_false, ↓bI_p, ↓bV_p, ↓bL_p, bIJ_s, bVJ_s, bLJ_s, ↓am_let_s, Nat.blt, Nat.ble, Bool.and_true, Bool.true_and, Bool.and_self, Int.cast_ofNat_Int, am_i_add, am_i_sub, am_i_mul, am_ok_i, am_i_cl, n_lt, n_le, n_eq, n_lt0, n_le0, n_0lt, n_0le, n_eq0, ne_eq, ↓reduceIte, not_true_eq_false, not_false_eq_true, and_true, true_and, and_false, false_and, eq_T, eq_F, lt_T, lt_F, le_T, le_F, qn_T, qn_F, and_F, b01_T, b01_F, e_isIn, Int32.toInt_toInt64, am_i_toInt, am_l_toInt, Int.toNat_natCast, Int.reduceToNat, Int.reduceAdd, Int.reduceSub, Int.reduceMul, Int.reduceNeg, Nat.reduceAdd, Nat.reduceMul, Nat.add_zero, Nat.mul_zero, Nat.zero_add, am_zb0, am_zb1, h94, am_i_s]
  | m + 1, j, hj => by
    have ih := m_nnF (v := v) hm ha hL h5 h94 m (j + 1) (by omega)
    rw [← ih, sg_X12_newName_15]
    simp (disch := first | assumption | omega) only [rM hm, ly_csm, ly_cam, ly_cf, ly_kd, ly_ln, ↓Bool.cond_decide, cond_true, cond_false, ↓bI_p, ↓bV_p, ↓bL_p, bIJ_s, bVJ_s, bLJ_s, ↓am_let_s, Nat.blt, Nat.ble, Bool.and_true, Bool.true_and, Bool.and_self, Int.cast_ofNat_Int, am_i_add, am_i_sub, am_i_mul, am_ok_i, am_i_cl, n_lt, n_le, n_eq, n_lt0, n_le0, n_0lt, n_0le, n_eq0, ne_eq, ↓reduceIte, not_true_eq_false, not_false_eq_true, and_true, true_and, and_false, false_and, eq_T, eq_F, lt_T, lt_F, le_T, le_F, qn_T, qn_F, and_F, b01_T, b01_F, e_isIn, Int32.toInt_toInt64, am_i_toInt, am_l_toInt, Int.toNat_natCast, Int.reduceToNat, Int.reduceAdd, Int.reduceSub, Int.reduceMul, Int.reduceNeg, Nat.reduceAdd, Nat.reduceMul, Nat.add_zero, Nat.mul_zero, Nat.zero_add, am_zb0, am_zb1, h94, h5, sg_X12_newName_59, am_i_s]
theorem m_nn (hm : st_Rm R) {a st : Nat} {l : List Nat} (L : List (List Nat)) (ha : a ≤ 1) (hL : L.length ≤ 6) (hl : nOK l) (h5 : I 64 5 = am_i 0) (h37 : I 64 37 = am_i st) (h94 : I 94 a = am_i L.length) (hJ : ∀ (j : Nat) (k : List Nat), L[j]? = some k → J 95 (8 * a + j) = am_l (pk27 k : Nat) ∧ nOK k) : ∀ (m j : Nat), j + m = L.length → am_E (d + 2) 181 15 [(0, .ref 64), (1, .long (am_l (pk27 l : Nat))), (3, .int (am_i a)), (4, .int (am_i j))] [] (I, J, R, 138) = am_E (d + 2) 181 7 [(0, .ref 64), (1, .long (am_l (pk27 l : Nat))), (3, .int (am_i (a + 1 : Nat)))] [] ((if l ∈ L.drop j then am_up (am_up I 64 5 (am_i 3)) 64 6 (am_i st) else I), J, R, 138)
  | 0, j, hj => by
    obtain rfl : j = L.length := by omega
    rw [List.drop_length, if_neg List.not_mem_nil, sg_X12_newName_15]
    simp (disch := first | assumption | omega) only [rM hm, ly_csm, ly_cam, ly_cf, ly_kd, ly_ln, ↓Bool.cond_decide, cond_true, cond_false, ↓bI_p, ↓bV_p, ↓bL_p, bIJ_s, bVJ_s, bLJ_s, ↓am_let_s, Nat.blt, Nat.ble, Bool.and_true, Bool.true_and, Bool.and_self, Int.cast_ofNat_Int, am_i_add, am_i_sub, am_i_mul, am_ok_i, am_i_cl, n_lt, n_le, n_eq, n_lt0, n_le0, n_0lt, n_0le, n_eq0, ne_eq, ↓reduceIte, not_true_eq_false, not_false_eq_true, and_true, true_and, and_false, false_and, eq_T, eq_F, lt_T, lt_F, le_T, le_F, qn_T, qn_F, and_F, b01_T, b01_F, e_isIn, Int32.toInt_toInt64, am_i_toInt, am_l_toInt, Int.toNat_natCast, Int.reduceToNat, Int.reduceAdd, Int.reduceSub, Int.reduceMul, Int.reduceNeg, Nat.reduceAdd, Nat.reduceMul, Nat.add_zero, Nat.mul_zero, Nat.zero_add, am_zb0, am_zb1, h94, am_i_s]
  | m + 1, j, hj => by
    have lt : j < L.length := by omega
    obtain ⟨k, hk⟩ : ∃ k, L[j]? = some k := ⟨_, List.getElem?_eq_getElem lt⟩
    obtain ⟨b1, b2⟩ := hJ j k hk
    have ed : L.drop j = k :: L.drop (j + 1) := by
      rw [List.drop_eq_getElem_cons lt]
      congr 1
      rw [List.getElem?_eq_getElem lt] at hk
      exact Option.some.inj hk
    have en : (8 * (a : Int) + (j : Int)).toNat = 8 * a + j := by omega
    rw [ed]
    by_cases q : k = l
    · subst q
      rw [if_pos List.mem_cons_self]
      have fl := fun d => m_fail (d := d) (J := J) (R := R) (I := I) (v := am_i 3) (w := am_i st) hm h5
      have cm : (lg_cmp (am_l (pk27 k : Nat)) (am_l (pk27 k : Nat)) = 0) = True := by rw [nOK_l hl hl]; exact eq_true rfl
      have f5 : (am_up (am_up I 64 5 (am_i 3)) 64 6 (am_i st) 64 5 = 0) = False := eq_false (by
        rw [am_up_o (by omega), am_up_e]
        exact i5_n (e := 3) (by decide) (by decide))
      have nf := m_nnF (d := d) (J := J) (R := R) (I := am_up (am_up I 64 5 (am_i 3)) 64 6 (am_i st)) (v := am_l (pk27 k : Nat)) hm ha hL f5 (by rw [am_up_o (by omega), am_up_o (by omega)]; exact h94) m (j + 1) (by omega)
      rw [← nf, sg_X12_newName_15]
      simp (disch := first | assumption | omega) only [rM hm, ly_csm, ly_cam, ly_cf, ly_kd, ly_ln, ↓Bool.cond_decide, cond_true, cond_false, ↓bI_p, ↓bV_p, ↓bL_p, bIJ_s, bVJ_s, bLJ_s, ↓am_let_s, Nat.blt, Nat.ble, Bool.and_true, Bool.true_and, Bool.and_self, Int.cast_ofNat_Int, am_i_add, am_i_sub, am_i_mul, am_ok_i, am_i_cl, n_lt, n_le, n_eq, n_lt0, n_le0, n_0lt, n_0le, n_eq0, ne_eq, ↓reduceIte, not_true_eq_false, not_false_eq_true, and_true, true_and, and_false, false_and, eq_T, eq_F, lt_T, lt_F, le_T, le_F, qn_T, qn_F, and_F, b01_T, b01_F, e_isIn, Int32.toInt_toInt64, am_i_toInt, am_l_toInt, Int.toNat_natCast, Int.reduceToNat, Int.reduceAdd, Int.reduceSub, Int.reduceMul, Int.reduceNeg, Nat.reduceAdd, Nat.reduceMul, Nat.add_zero, Nat.mul_zero, Nat.zero_add, am_zb0, am_zb1, h94, h5, en, b1, cm, h37, fl, sg_X12_newName_59, am_i_s]
    · have ih := m_nn hm L ha hL hl h5 h37 h94 hJ m (j + 1) (by omega)
      have em : (l ∈ k :: L.drop (j + 1)) ↔ l ∈ L.drop (j + 1) := by
        rw [List.mem_cons]
        constructor
        · rintro (z | z)
          · exact absurd z.symm q
          · exact z
        · exact Or.inr
      have ei : (if l ∈ k :: L.drop (j + 1) then am_up (am_up I 64 5 (am_i 3)) 64 6 (am_i st) else I) = (if l ∈ L.drop (j + 1) then am_up (am_up I 64 5 (am_i 3)) 64 6 (am_i st) else I) := by
        by_cases z : l ∈ L.drop (j + 1)
        · rw [if_pos z, if_pos (em.mpr z)]
        · rw [if_neg z, if_neg (fun w => z (em.mp w))]
      have cm : (lg_cmp (am_l (pk27 k : Nat)) (am_l (pk27 l : Nat)) = 0) = False := by rw [nOK_l b2 hl]; exact eq_false q
      rw [ei, ← ih, sg_X12_newName_15]
      simp (disch := first | assumption | omega) only [rM hm, ly_csm, ly_cam, ly_cf, ly_kd, ly_ln, ↓Bool.cond_decide, cond_true, cond_false, ↓bI_p, ↓bV_p, ↓bL_p, bIJ_s, bVJ_s, bLJ_s, ↓am_let_s, Nat.blt, Nat.ble, Bool.and_true, Bool.true_and, Bool.and_self, Int.cast_ofNat_Int, am_i_add, am_i_sub, am_i_mul, am_ok_i, am_i_cl, n_lt, n_le, n_eq, n_lt0, n_le0, n_0lt, n_0le, n_eq0, ne_eq, ↓reduceIte, not_true_eq_false, not_false_eq_true, and_true, true_and, and_false, false_and, eq_T, eq_F, lt_T, lt_F, le_T, le_F, qn_T, qn_F, and_F, b01_T, b01_F, e_isIn, Int32.toInt_toInt64, am_i_toInt, am_l_toInt, Int.toNat_natCast, Int.reduceToNat, Int.reduceAdd, Int.reduceSub, Int.reduceMul, Int.reduceNeg, Nat.reduceAdd, Nat.reduceMul, Nat.add_zero, Nat.mul_zero, Nat.zero_add, am_zb0, am_zb1, h94, h5, en, b1, cm, sg_X12_newName_59, am_i_s]
/-- a name that is new -/
theorem m_newName (hm : st_Rm R) {q : Nat} (hq : q ≤ n) (hT : txM T n I) (hR : mrX T n q I) (hX : mCh X I J) (hO : sOK n p i X) : ∃ (v : Int64) (I' : tI), am_E (d + 5) 181 0 [(0, .ref 64)] [] (I, J, R, 138) = some (some (.long v), (I', J, R, 138)) ∧ ((aK T n q X).1 = 0 → v = am_l (pk27 (tL T n q) : Nat)) ∧ mR T n (aK T n q X) I' ∧ ∀ a k, ¬ mlC a k → I' a k = I a k := by
  obtain ⟨v, I1, a1, a2, a3, a4⟩ := m_name (d := d) (J := J) hm hT hq hR
  have b6 := hO.1.2.2.2.2.2.1
  have r6 := hO.1.2.2.2.2.2.2.1
  have h940 : ∀ I2 : tI, (∀ a k, ¬ mlC a k → I2 a k = I a k) → I2 94 0 = am_i X.bn.length ∧ I2 94 1 = am_i X.rd.length := fun I2 e => ⟨by rw [e _ _ (by unfold mlC; omega)]; exact hX.1.2.2.2.1, by rw [e _ _ (by unfold mlC; omega)]; exact hX.1.2.2.2.2.1⟩
  have e7 : ∀ (v : Int64) (M : am_Mem), am_E (d + 5) 181 7 [(0, .ref 64), (1, .long v), (3, .int (am_i (1 + 1 : Nat)))] [] M = some (some (.long v), M) := fun v M => by
    rw [sg_X12_newName_7]
    rfl
  have e70 : ∀ (v : Int64) (M : am_Mem), am_E (d + 5) 181 7 [(0, .ref 64), (1, .long v), (3, .int (am_i 0))] [] M = am_E (d + 5) 181 15 [(0, .ref 64), (1, .long v), (3, .int (am_i 0)), (4, .int (am_i 0))] [] M := fun v M => by
    rw [sg_X12_newName_7]
    rfl
  have e71 : ∀ (v : Int64) (M : am_Mem), am_E (d + 5) 181 7 [(0, .ref 64), (1, .long v), (3, .int (am_i (0 + 1 : Nat)))] [] M = am_E (d + 5) 181 15 [(0, .ref 64), (1, .long v), (3, .int (am_i (1 : Nat))), (4, .int (am_i (0 : Nat)))] [] M := fun v M => by
    rw [sg_X12_newName_7]
    rfl
  have run : ∀ Y, am_E (d + 5) 181 15 [(0, .ref 64), (1, .long v), (3, .int (am_i 0)), (4, .int (am_i 0))] [] (I1, J, R, 138) = Y → am_E (d + 5) 181 0 [(0, .ref 64)] [] (I, J, R, 138) = Y := fun Y hY => by
    rw [← hY, ← e70, sg_X12_newName_0]
    simp (disch := first | assumption | omega) only [rM hm, ly_csm, ly_cam, ly_cf, ly_kd, ly_ln, ↓Bool.cond_decide, cond_true, cond_false, ↓bI_p, ↓bV_p, ↓bL_p, bIJ_s, bVJ_s, bLJ_s, ↓am_let_s, Nat.blt, Nat.ble, Bool.and_true, Bool.true_and, Bool.and_self, Int.cast_ofNat_Int, am_i_add, am_i_sub, am_i_mul, am_ok_i, am_i_cl, n_lt, n_le, n_eq, n_lt0, n_le0, n_0lt, n_0le, n_eq0, ne_eq, ↓reduceIte, not_true_eq_false, not_false_eq_true, and_true, true_and, and_false, false_and, eq_T, eq_F, lt_T, lt_F, le_T, le_F, qn_T, qn_F, and_F, b01_T, b01_F, e_isIn, Int32.toInt_toInt64, am_i_toInt, am_l_toInt, Int.toNat_natCast, Int.reduceToNat, Int.reduceAdd, Int.reduceSub, Int.reduceMul, Int.reduceNeg, Nat.reduceAdd, Nat.reduceMul, Nat.add_zero, Nat.mul_zero, Nat.zero_add, am_zb0, am_zb1, a1]
  by_cases q1 : (aM T n q).1 = 0
  · obtain ⟨v1, v2⟩ := a2 q1
    obtain ⟨k1, tn6, nw, te2⟩ := tL_b q1
    obtain ⟨l1, l2, l3⟩ := tL_x hq k1
    have hl : nOK (tL T n q) := ⟨by omega, by omega, l3⟩
    obtain ⟨R1, R2⟩ := a3.1 q1
    have h5 := R1.2.1
    obtain ⟨n0, n1⟩ := h940 I1 a4
    have s1 := m_nn (d := d + 3) (J := J) (I := I1) (a := 0) (st := tAt T n q) hm (X.bn.map sBo.nm) (by omega) (by rw [List.length_map]; exact b6) hl h5 v2 (by rw [List.length_map]; exact n0) (fun j k hk => by
      rw [List.getElem?_map] at hk
      cases hq : X.bn[j]? with
      | none => rw [hq] at hk; cases hk
      | some x =>
        rw [hq] at hk
        have ex : x.nm = k := Option.some.inj hk
        subst ex
        refine ⟨?_, hO.2.2.2.1 _ (List.mem_append.mpr (Or.inl (List.mem_map.mpr ⟨x, List.mem_of_getElem? hq, rfl⟩)))⟩
        rw [show 8 * 0 + j = j by omega]
        exact (hX.2.1 j x hq).1) (X.bn.map sBo.nm).length 0 (by omega)
    rw [List.drop_zero] at s1
    rw [v1] at run
    have s1' : am_E (d + 5) 181 15 [(0, .ref 64), (1, .long (am_l (pk27 (tL T n q) : Nat))), (3, .int (am_i 0)), (4, .int (am_i 0))] [] (I1, J, R, 138) = _ := s1
    have rdJ : ∀ (j : Nat) (k : List Nat), (X.rd.map Prod.fst)[j]? = some k → J 95 (8 * 1 + j) = am_l (pk27 k : Nat) ∧ nOK k := fun j k hk => by
      rw [List.getElem?_map] at hk
      cases hq : X.rd[j]? with
      | none => rw [hq] at hk; cases hk
      | some y =>
        rw [hq] at hk
        have ex : y.1 = k := Option.some.inj hk
        subst ex
        exact ⟨(hX.2.2.1 j y hq).1, hO.2.2.2.1 _ (List.mem_append.mpr (Or.inr (List.mem_map.mpr ⟨y, List.mem_of_getElem? hq, rfl⟩)))⟩
    have f3 : mR T n (3, tAt T n q) (am_up (am_up I1 64 5 (am_i 3)) 64 6 (am_i (tAt T n q))) := ⟨fun z => absurd z (by show ¬ ((3 : Nat) = 0); decide), fun _ => ⟨by show (3 : Nat) < 9; decide, by rw [am_up_o (by omega), am_up_e]; rfl, am_up_e⟩⟩
    have fF : ∀ a k, ¬ mlC a k → am_up (am_up I1 64 5 (am_i 3)) 64 6 (am_i (tAt T n q)) a k = I a k := fun a k z => by
      have z' := z
      unfold mlC at z
      rw [am_up_o (by omega), am_up_o (by omega), a4 a k z']
    by_cases q2 : tL T n q ∈ X.bn.map sBo.nm
    · rw [if_pos q2] at s1'
      have ek : aK T n q X = (3, tAt T n q) := by unfold aK; rw [rS_0 q1, if_pos (show tL T n q ∈ sNm X from List.mem_append.mpr (Or.inl q2))]
      rw [ek]
      have f5 : (am_up (am_up I1 64 5 (am_i 3)) 64 6 (am_i (tAt T n q)) 64 5 = 0) = False := eq_false (by
        rw [am_up_o (by omega), am_up_e]
        exact i5_n (e := 3) (by decide) (by decide))
      have nf := m_nnF (d := d + 3) (J := J) (R := R) (I := am_up (am_up I1 64 5 (am_i 3)) 64 6 (am_i (tAt T n q))) (a := 1) (v := am_l (pk27 (tL T n q) : Nat)) hm (by omega) r6 f5 (by rw [am_up_o (by omega), am_up_o (by omega)]; exact n1) X.rd.length 0 (by omega)
      refine ⟨_, _, run _ (s1'.trans ((e71 _ _).trans (nf.trans (e7 _ _)))), fun z => absurd z (by show ¬ ((3 : Nat) = 0); decide), f3, fF⟩
    · rw [if_neg q2] at s1'
      have s2 := m_nn (d := d + 3) (J := J) (I := I1) (a := 1) (st := tAt T n q) hm (X.rd.map Prod.fst) (by omega) (by rw [List.length_map]; exact r6) hl h5 v2 (by rw [List.length_map]; exact n1) rdJ (X.rd.map Prod.fst).length 0 (by omega)
      rw [List.drop_zero] at s2
      by_cases q3 : tL T n q ∈ X.rd.map Prod.fst
      · rw [if_pos q3] at s2
        have ek : aK T n q X = (3, tAt T n q) := by unfold aK; rw [rS_0 q1, if_pos (show tL T n q ∈ sNm X from List.mem_append.mpr (Or.inr q3))]
        rw [ek]
        exact ⟨_, _, run _ (s1'.trans ((e71 _ _).trans (s2.trans (e7 _ _)))), fun z => absurd z (by show ¬ ((3 : Nat) = 0); decide), f3, fF⟩
      · rw [if_neg q3] at s2
        have ek : aK T n q X = (0, tE T n q) := by
          unfold aK
          rw [rS_0 q1, if_neg (fun c => by rcases List.mem_append.mp c with z | z; exact q2 z; exact q3 z), te2]
        rw [ek]
        refine ⟨_, _, run _ (s1'.trans ((e71 _ _).trans (s2.trans (e7 _ _)))), fun _ => rfl, ⟨fun _ => ⟨by rw [te2] at R1; exact R1, (tE_b (T := T) hq).2.1⟩, fun z => absurd rfl z⟩, a4⟩
  · have ek : aK T n q X = aM T n q := by unfold aK; rw [rS_n q1]
    rw [ek]
    have f5 := mR_5 a3 q1
    obtain ⟨n0, n1⟩ := h940 I1 a4
    have nf0 := m_nnF (d := d + 3) (J := J) (R := R) (I := I1) (a := 0) (v := v) hm (by omega) b6 f5 n0 X.bn.length 0 (by omega)
    have nf0' : am_E (d + 5) 181 15 [(0, .ref 64), (1, .long v), (3, .int (am_i 0)), (4, .int (am_i 0))] [] (I1, J, R, 138) = _ := nf0
    have nf1 := m_nnF (d := d + 3) (J := J) (R := R) (I := I1) (a := 1) (v := v) hm (by omega) r6 f5 n1 X.rd.length 0 (by omega)
    exact ⟨v, I1, run _ (nf0'.trans ((e71 _ _).trans (nf1.trans (e7 _ _)))), fun z => absurd z q1, a3, a4⟩
end MCH
