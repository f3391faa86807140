/-! ===== the reference looks at the text ===== -/
/-- the word that stands next, -1 none; the sign; -/
def tW (T : Nat → Nat) (n p : Nat) : Int := if tK T n p = 1 then wix (tL T n p) else -1
def tSg (T : Nat → Nat) (n p : Nat) : Int := if tK T n p = 3 then (T (tAt T n p) : Int) else -1
def gP (T : Nat → Nat) (p : Nat) : Prop := 0 < p ∧ (lB (T (p - 1)) = true ∨ dB (T (p - 1)) = true)
def mrX (T : Nat → Nat) (n p : Nat) (I : tI) : Prop := I 64 3 = am_i n ∧ I 64 5 = am_i 0 ∧ ∃ (a : Nat) (e : Int), p ≤ a ∧ a ≤ tAt T n p ∧ -1 ≤ e ∧ e ≤ p ∧ (e = p ↔ gP T p) ∧ I 64 2 = am_i a ∧ I 64 4 = am_i e ∧ I 64 6 = am_i (-1)
def txM (T : Nat → Nat) (n : Nat) (I : tI) : Prop := n ≤ 1600 ∧ (∀ k, k < n → T k < 256 ∧ I 65 k = am_i (T k)) ∧ ∀ q, fixd q = true → I q = am_K0 q
section TOK2
variable {T : Nat → Nat} {n p : Nat}
theorem tW_b : -1 ≤ tW T n p ∧ tW T n p < 32 := by
  unfold tW
  split
  · exact wix_b _
  · omega
theorem tGl_g (hp : p ≤ n) : tGl T p (tAt T n p) = true ↔ tAt T n p = p ∧ gP T p := by
  unfold tGl gP
  rw [Bool.and_eq_true, decide_eq_true_eq, Bool.or_eq_true]
  constructor
  · rintro ⟨⟨a, b⟩, c⟩; exact ⟨a, b, c⟩
  · rintro ⟨a, b, c⟩; exact ⟨⟨a, b⟩, c⟩
theorem tK_1 : tK T n p = 1 ↔ tAt T n p < n ∧ lB (T (tAt T n p)) = true ∧ ¬ tGl T p (tAt T n p) = true := by
  unfold tK
  constructor
  · intro h
    split at h
    · omega
    · split at h
      · split at h
        · omega
        · next a b c => exact ⟨by omega, b, c⟩
      · split at h
        · split at h <;> omega
        · omega
  · rintro ⟨a, b, c⟩
    rw [if_neg (by omega), if_pos b, if_neg c]
theorem tK_2 : tK T n p = 2 ↔ tAt T n p < n ∧ dB (T (tAt T n p)) = true ∧ ¬ tGl T p (tAt T n p) = true := by
  unfold tK
  constructor
  · intro h
    split at h
    · omega
    · split at h
      · split at h <;> omega
      · split at h
        · split at h
          · omega
          · next a _ b c => exact ⟨by omega, b, c⟩
        · omega
  · rintro ⟨a, b, c⟩
    have nl : ¬ lB (T (tAt T n p)) = true := by rw [lB_t]; rw [dB_t] at b; omega
    rw [if_neg (by omega), if_neg nl, if_pos b, if_neg c]
theorem tK_3 : tK T n p = 3 ↔ tAt T n p < n ∧ ¬ lB (T (tAt T n p)) = true ∧ ¬ dB (T (tAt T n p)) = true := by
  unfold tK
  constructor
  · intro h
    split at h
    · omega
    · split at h
      · split at h <;> omega
      · split at h
        · split at h <;> omega
        · next a b c => exact ⟨by omega, b, c⟩
  · rintro ⟨a, b, c⟩
    rw [if_neg (by omega), if_neg b, if_neg c]
theorem tK_0 : tK T n p = 0 ↔ n ≤ tAt T n p := by
  unfold tK
  constructor
  · intro h
    split at h
    · assumption
    · split at h
      · split at h <;> omega
      · split at h
        · split at h <;> omega
        · omega
  · intro h
    rw [if_pos h]
theorem tE_1 (h : tK T n p = 1) : tE T n p = spn lB T n (tAt T n p) := by
  obtain ⟨a, b, -⟩ := tK_1.mp h
  unfold tE
  rw [if_neg (by omega), if_pos b]
theorem tE_2 (h : tK T n p = 2) : tE T n p = spn dB T n (tAt T n p) := by
  obtain ⟨a, b, -⟩ := tK_2.mp h
  have nl : ¬ lB (T (tAt T n p)) = true := by rw [lB_t]; rw [dB_t] at b; omega
  unfold tE
  rw [if_neg (by omega), if_neg nl, if_pos b]
theorem tE_3 (h : tK T n p = 3) : tE T n p = tAt T n p + 1 := by
  obtain ⟨a, b, c⟩ := tK_3.mp h
  unfold tE
  rw [if_neg (by omega), if_neg b, if_neg c]
/-- where a token has ended: whether another one would be glued to it -/
theorem gP_1 (h : tK T n p = 1 ∨ tK T n p = 2) (hp : p ≤ n) : gP T (tE T n p) := by
  obtain ⟨e1, e2, e3⟩ := tE_b (T := T) hp
  rcases h with h | h
  · obtain ⟨a, -, -⟩ := tK_1.mp h
    have e := tE_1 h
    obtain ⟨-, q⟩ := sp_in (c := lB) (T := T) (n := n) (p := tAt T n p) (q := tE T n p - 1) (by have := e3 a; omega) (by have := e3 a; omega)
    exact ⟨by have := e3 a; omega, Or.inl q⟩
  · obtain ⟨a, -, -⟩ := tK_2.mp h
    have e := tE_2 h
    obtain ⟨-, q⟩ := sp_in (c := dB) (T := T) (n := n) (p := tAt T n p) (q := tE T n p - 1) (by have := e3 a; omega) (by have := e3 a; omega)
    exact ⟨by have := e3 a; omega, Or.inr q⟩
theorem gP_3 (h : tK T n p = 3) : ¬ gP T (tE T n p) := by
  obtain ⟨a, b, c⟩ := tK_3.mp h
  rw [tE_3 h]
  rintro ⟨-, q⟩
  rw [Nat.add_sub_cancel] at q
  rcases q with q | q
  · exact b q
  · exact c q
theorem mrX_0 {I : tI} (h2 : I 64 2 = am_i 0) (h3 : I 64 3 = am_i n) (h4 : I 64 4 = am_i (-1)) (h5 : I 64 5 = am_i 0) (h6 : I 64 6 = am_i (-1)) : mrX T n 0 I := ⟨h3, h5, 0, -1, by omega, by omega, by omega, by omega, by
  constructor
  · intro h; omega
  · rintro ⟨h, -⟩; omega, h2, h4, h6⟩
theorem mrX_e {I : tI} {q : Nat} (h2 : I 64 2 = am_i q) (h3 : I 64 3 = am_i n) (h4 : I 64 4 = am_i q) (h5 : I 64 5 = am_i 0) (hg : gP T q) (h6 : I 64 6 = am_i (-1)) : mrX T n q I := ⟨h3, h5, q, q, by omega, sp_ge q, by omega, by omega, ⟨fun _ => hg, fun _ => rfl⟩, h2, h4, h6⟩
theorem mrX_6 {I : tI} (h : mrX T n p I) : I 64 6 = am_i (-1) := by
  obtain ⟨-, -, a, e, -, -, -, -, -, -, -, h6⟩ := h
  exact h6
end TOK2
theorem am_up_up {α : Type} {f : Nat → Nat → α} {a k : Nat} {v w : α} : am_up (am_up f a k v) a k w = am_up f a k w := by
  funext c j
  by_cases e : c = a ∧ j = k
  · rw [e.1, e.2, am_up_e, am_up_e]
  · rw [am_up_o e, am_up_o e, am_up_o e]
section MLEX
variable {d : Nat} {J : tJ} {R : tR} {T : Nat → Nat} {n p : Nat}
theorem e_mL {c : Int} {M : am_Mem} (h : -1 ≤ c) (h2 : c < 256) : am_E (d + 1) 168 0 [(0, .int (am_i c))] [] M = some (some (.int (b01 (97 ≤ c ∧ c ≤ 122))), M) := by
  rw [sg_X12_isLetter_0]
  by_cases q : c < 97
  · rw [b01_f (by omega)]
    simp (disch := first | assumption | omega) only [↓Bool.cond_decide, cond_true, cond_false, ↓am_let_s, ↓bI_p, bIJ_s, ↓bV_p, bVJ_s, ↓bL_p, bLJ_s, ly_cf, Bool.and_self, Bool.and_true, am_i_add, am_i_sub, am_i_mul, am_ok_i, am_i_cl, n_lt, n_le, n_eq, n_lt0, n_le0, n_0lt, n_0le, n_eq0, ne_eq, ↓reduceIte, not_true_eq_false, not_false_eq_true, and_true, true_and, and_false, false_and, eq_T, eq_F, lt_T, lt_F, le_T, le_F, qn_T, qn_F, and_F, b01_T, b01_F, e_isIn, Int32.toInt_toInt64, am_i_toInt, am_l_toInt, Int.toNat_natCast, Int.reduceToNat, Int.reduceAdd, Int.reduceSub, Int.reduceMul, Int.reduceNeg, Nat.reduceAdd, Nat.reduceMul, Nat.add_zero, Nat.mul_zero, Nat.zero_add, am_zb0, am_zb1, sg_X12_isLetter_16]
  · by_cases q2 : 122 < c
    · rw [b01_f (by omega)]
      simp (disch := first | assumption | omega) only [↓Bool.cond_decide, cond_true, cond_false, ↓am_let_s, ↓bI_p, bIJ_s, ↓bV_p, bVJ_s, ↓bL_p, bLJ_s, ly_cf, Bool.and_self, Bool.and_true, am_i_add, am_i_sub, am_i_mul, am_ok_i, am_i_cl, n_lt, n_le, n_eq, n_lt0, n_le0, n_0lt, n_0le, n_eq0, ne_eq, ↓reduceIte, not_true_eq_false, not_false_eq_true, and_true, true_and, and_false, false_and, eq_T, eq_F, lt_T, lt_F, le_T, le_F, qn_T, qn_F, and_F, b01_T, b01_F, e_isIn, Int32.toInt_toInt64, am_i_toInt, am_l_toInt, Int.toNat_natCast, Int.reduceToNat, Int.reduceAdd, Int.reduceSub, Int.reduceMul, Int.reduceNeg, Nat.reduceAdd, Nat.reduceMul, Nat.add_zero, Nat.mul_zero, Nat.zero_add, am_zb0, am_zb1, sg_X12_isLetter_16]
    · rw [b01_t (by omega)]
      simp (disch := first | assumption | omega) only [↓Bool.cond_decide, cond_true, cond_false, ↓am_let_s, ↓bI_p, bIJ_s, ↓bV_p, bVJ_s, ↓bL_p, bLJ_s, ly_cf, Bool.and_self, Bool.and_true, am_i_add, am_i_sub, am_i_mul, am_ok_i, am_i_cl, n_lt, n_le, n_eq, n_lt0, n_le0, n_0lt, n_0le, n_eq0, ne_eq, ↓reduceIte, not_true_eq_false, not_false_eq_true, and_true, true_and, and_false, false_and, eq_T, eq_F, lt_T, lt_F, le_T, le_F, qn_T, qn_F, and_F, b01_T, b01_F, e_isIn, Int32.toInt_toInt64, am_i_toInt, am_l_toInt, Int.toNat_natCast, Int.reduceToNat, Int.reduceAdd, Int.reduceSub, Int.reduceMul, Int.reduceNeg, Nat.reduceAdd, Nat.reduceMul, Nat.add_zero, Nat.mul_zero, Nat.zero_add, am_zb0, am_zb1]
theorem e_mD {c : Int} {M : am_Mem} (h : -1 ≤ c) (h2 : c < 256) : am_E (d + 1) 169 0 [(0, .int (am_i c))] [] M = some (some (.int (b01 (48 ≤ c ∧ c ≤ 57))), M) := by
  rw [sg_X12_isDigit_0]
  by_cases q : c < 48
  · rw [b01_f (by omega)]
    simp (disch := first | assumption | omega) only [↓Bool.cond_decide, cond_true, cond_false, ↓am_let_s, ↓bI_p, bIJ_s, ↓bV_p, bVJ_s, ↓bL_p, bLJ_s, ly_cf, Bool.and_self, Bool.and_true, am_i_add, am_i_sub, am_i_mul, am_ok_i, am_i_cl, n_lt, n_le, n_eq, n_lt0, n_le0, n_0lt, n_0le, n_eq0, ne_eq, ↓reduceIte, not_true_eq_false, not_false_eq_true, and_true, true_and, and_false, false_and, eq_T, eq_F, lt_T, lt_F, le_T, le_F, qn_T, qn_F, and_F, b01_T, b01_F, e_isIn, Int32.toInt_toInt64, am_i_toInt, am_l_toInt, Int.toNat_natCast, Int.reduceToNat, Int.reduceAdd, Int.reduceSub, Int.reduceMul, Int.reduceNeg, Nat.reduceAdd, Nat.reduceMul, Nat.add_zero, Nat.mul_zero, Nat.zero_add, am_zb0, am_zb1, sg_X12_isDigit_16]
  · by_cases q2 : 57 < c
    · rw [b01_f (by omega)]
      simp (disch := first | assumption | omega) only [↓Bool.cond_decide, cond_true, cond_false, ↓am_let_s, ↓bI_p, bIJ_s, ↓bV_p, bVJ_s, ↓bL_p, bLJ_s, ly_cf, Bool.and_self, Bool.and_true, am_i_add, am_i_sub, am_i_mul, am_ok_i, am_i_cl, n_lt, n_le, n_eq, n_lt0, n_le0, n_0lt, n_0le, n_eq0, ne_eq, ↓reduceIte, not_true_eq_false, not_false_eq_true, and_true, true_and, and_false, false_and, eq_T, eq_F, lt_T, lt_F, le_T, le_F, qn_T, qn_F, and_F, b01_T, b01_F, e_isIn, Int32.toInt_toInt64, am_i_toInt, am_l_toInt, Int.toNat_natCast, Int.reduceToNat, Int.reduceAdd, Int.reduceSub, Int.reduceMul, Int.reduceNeg, Nat.reduceAdd, Nat.reduceMul, Nat.add_zero, Nat.mul_zero, Nat.zero_add, am_zb0, am_zb1, sg_X12_isDigit_16]
    · rw [b01_t (by omega)]
      simp (disch := first | assumption | omega) only [↓Bool.cond_decide, cond_true, cond_false, ↓am_let_s, ↓bI_p, bIJ_s, ↓bV_p, bVJ_s, ↓bL_p, bLJ_s, ly_cf, Bool.and_self, Bool.and_true, am_i_add, am_i_sub, am_i_mul, am_ok_i, am_i_cl, n_lt, n_le, n_eq, n_lt0, n_le0, n_0lt, n_0le, n_eq0, ne_eq, ↓reduceIte, not_true_eq_false, not_false_eq_true, and_true, true_and, and_false, false_and, eq_T, eq_F, lt_T, lt_F, le_T, le_F, qn_T, qn_F, and_F, b01_T, b01_F, e_isIn, Int32.toInt_toInt64, am_i_toInt, am_l_toInt, Int.toNat_natCast, Int.reduceToNat, Int.reduceAdd, Int.reduceSub, Int.reduceMul, Int.reduceNeg, Nat.reduceAdd, Nat.reduceMul, Nat.add_zero, Nat.mul_zero, Nat.zero_add, am_zb0, am_zb1]
/-- the byte that stands next -/
def tC (T : Nat → Nat) (n p : Nat) : Int := if tAt T n p < n then (T (tAt T n p) : Int) else -1
theorem tC_b (h : ∀ k, k < n → T k < 256) : -1 ≤ tC T n p ∧ tC T n p < 256 := by
  unfold tC
  split
  · next q => have := h _ q; omega
  · omega
theorem tC_S {c : Nat} (h : ¬ lB c = true) (h2 : ¬ dB c = true) : tC T n p = c ↔ tSg T n p = c := by
  unfold tC tSg
  by_cases q : tK T n p = 3
  · rw [if_pos q, if_pos (tK_3.mp q).1]
  · rw [if_neg q]
    by_cases q2 : tAt T n p < n
    · rw [if_pos q2]
      constructor
      · intro e
        have e' : T (tAt T n p) = c := by omega
        exact absurd (tK_3.mpr ⟨q2, by rw [e']; exact h, by rw [e']; exact h2⟩) q
      · intro e; omega
    · rw [if_neg q2]
/-- look moves to the next token -/
theorem m_look (hm : st_Rm R) {I : tI} (hT : txM T n I) (hp : p ≤ n) (h3 : I 64 3 = am_i n) : ∀ (m a : Nat) (I' : tI), tAt T n p = a + m → p ≤ a → I' = am_up I 64 2 (am_i a) → am_E (d + 1) 170 0 [(0, .ref 64)] [] (I', J, R, 138) = some (some (.int (am_i (tC T n p))), (am_up I 64 2 (am_i (tAt T n p)), J, R, 138))
  | m, a, I', ha, hpa, hI => by
    obtain ⟨t1, t3, t4⟩ := hT
    have ab := tAt_b (T := T) hp
    have e2 : I' 64 2 = am_i a := by rw [hI, am_up_e]
    have e3 : I' 64 3 = am_i n := by rw [hI, am_up_o (by omega)]; exact h3
    cases m with
    | zero =>
      rw [Nat.add_zero] at ha
      have hI' : I' = am_up I 64 2 (am_i (tAt T n p)) := by rw [hI, ha]
      have nd := sp_nd (c := sB) (T := T) (n := n) p
      have ha' : spn sB T n p = a := ha
      rw [ha'] at nd
      rw [← hI', sg_X12_look_0]
      unfold tC
      rw [ha]
      by_cases q : a < n
      · have nl : ¬ sB (T a) = true := fun e => nd ⟨q, e⟩
        rw [sB_t] at nl
        obtain ⟨u1, u2⟩ := t3 a q
        have i5 : I' 65 a = am_i (T a) := by rw [hI, am_up_o (by omega)]; exact u2
        rw [if_pos q]
        simp (disch := first | assumption | omega) only [rM hm, ly_csm, ly_cam, ly_cf, ly_kd, ly_ln, ↓Bool.cond_decide, cond_true, cond_false, ↓bI_p, ↓bV_p, ↓bL_p, bIJ_s, bVJ_s, bLJ_s, ↓am_let_s, Nat.blt, Nat.ble, Bool.and_true, Bool.true_and, Bool.and_self, Int.cast_ofNat_Int, am_i_add, am_i_sub, am_i_mul, am_ok_i, am_i_cl, n_lt, n_le, n_eq, n_lt0, n_le0, n_0lt, n_0le, n_eq0, ne_eq, ↓reduceIte, not_true_eq_false, not_false_eq_true, and_true, true_and, and_false, false_and, eq_T, eq_F, lt_T, lt_F, le_T, le_F, qn_T, qn_F, and_F, b01_T, b01_F, e_isIn, Int32.toInt_toInt64, am_i_toInt, am_l_toInt, Int.toNat_natCast, Int.reduceToNat, Int.reduceAdd, Int.reduceSub, Int.reduceMul, Int.reduceNeg, Nat.reduceAdd, Nat.reduceMul, Nat.add_zero, Nat.mul_zero, Nat.zero_add, am_zb0, am_zb1, e2, e3, i5, sg_X12_look_52]
      · rw [if_neg q]
        simp (disch := first | assumption | omega) only [rM hm, ly_csm, ly_cam, ly_cf, ly_kd, ly_ln, ↓Bool.cond_decide, cond_true, cond_false, ↓bI_p, ↓bV_p, ↓bL_p, bIJ_s, bVJ_s, bLJ_s, ↓am_let_s, Nat.blt, Nat.ble, Bool.and_true, Bool.true_and, Bool.and_self, Int.cast_ofNat_Int, am_i_add, am_i_sub, am_i_mul, am_ok_i, am_i_cl, n_lt, n_le, n_eq, n_lt0, n_le0, n_0lt, n_0le, n_eq0, ne_eq, ↓reduceIte, not_true_eq_false, not_false_eq_true, and_true, true_and, and_false, false_and, eq_T, eq_F, lt_T, lt_F, le_T, le_F, qn_T, qn_F, and_F, b01_T, b01_F, e_isIn, Int32.toInt_toInt64, am_i_toInt, am_l_toInt, Int.toNat_natCast, Int.reduceToNat, Int.reduceAdd, Int.reduceSub, Int.reduceMul, Int.reduceNeg, Nat.reduceAdd, Nat.reduceMul, Nat.add_zero, Nat.mul_zero, Nat.zero_add, am_zb0, am_zb1, e2, e3, sg_X12_look_52]
    | succ m =>
      have ha' : spn sB T n p = a + (m + 1) := ha
      obtain ⟨k1, k2⟩ := sp_in (c := sB) (T := T) (n := n) (p := p) (q := a) hpa (by omega)
      rw [sB_t] at k2
      obtain ⟨u1, u2⟩ := t3 a k1
      have i5 : I' 65 a = am_i (T a) := by rw [hI, am_up_o (by omega)]; exact u2
      have ih := m_look hm ⟨t1, t3, t4⟩ hp h3 m (a + 1) (am_up I' 64 2 (am_i (a + 1 : Nat))) (by omega) (by omega) (by rw [hI, am_up_up])
      rw [← ih, sg_X12_look_0]
      rcases k2 with k2 | k2
      · rw [k2] at i5
        have i5' : I' 65 a = am_i 10 := i5
        simp (disch := first | assumption | omega) only [rM hm, ly_csm, ly_cam, ly_cf, ly_kd, ly_ln, ↓Bool.cond_decide, cond_true, cond_false, ↓bI_p, ↓bV_p, ↓bL_p, bIJ_s, bVJ_s, bLJ_s, ↓am_let_s, Nat.blt, Nat.ble, Bool.and_true, Bool.true_and, Bool.and_self, Int.cast_ofNat_Int, am_i_add, am_i_sub, am_i_mul, am_ok_i, am_i_cl, n_lt, n_le, n_eq, n_lt0, n_le0, n_0lt, n_0le, n_eq0, ne_eq, ↓reduceIte, not_true_eq_false, not_false_eq_true, and_true, true_and, and_false, false_and, eq_T, eq_F, lt_T, lt_F, le_T, le_F, qn_T, qn_F, and_F, b01_T, b01_F, e_isIn, Int32.toInt_toInt64, am_i_toInt, am_l_toInt, Int.toNat_natCast, Int.reduceToNat, Int.reduceAdd, Int.reduceSub, Int.reduceMul, Int.reduceNeg, Nat.reduceAdd, Nat.reduceMul, Nat.add_zero, Nat.mul_zero, Nat.zero_add, am_zb0, am_zb1, e2, e3, i5', sg_X12_look_39, am_i_s]
      · rw [k2] at i5
        have i5' : I' 65 a = am_i 32 := i5
        simp (disch := first | assumption | omega) only [rM hm, ly_csm, ly_cam, ly_cf, ly_kd, ly_ln, ↓Bool.cond_decide, cond_true, cond_false, ↓bI_p, ↓bV_p, ↓bL_p, bIJ_s, bVJ_s, bLJ_s, ↓am_let_s, Nat.blt, Nat.ble, Bool.and_true, Bool.true_and, Bool.and_self, Int.cast_ofNat_Int, am_i_add, am_i_sub, am_i_mul, am_ok_i, am_i_cl, n_lt, n_le, n_eq, n_lt0, n_le0, n_0lt, n_0le, n_eq0, ne_eq, ↓reduceIte, not_true_eq_false, not_false_eq_true, and_true, true_and, and_false, false_and, eq_T, eq_F, lt_T, lt_F, le_T, le_F, qn_T, qn_F, and_F, b01_T, b01_F, e_isIn, Int32.toInt_toInt64, am_i_toInt, am_l_toInt, Int.toNat_natCast, Int.reduceToNat, Int.reduceAdd, Int.reduceSub, Int.reduceMul, Int.reduceNeg, Nat.reduceAdd, Nat.reduceMul, Nat.add_zero, Nat.mul_zero, Nat.zero_add, am_zb0, am_zb1, e2, e3, i5', sg_X12_look_39, am_i_s]
end MLEX
