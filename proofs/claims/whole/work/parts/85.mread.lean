/-! ===== the reference's words, signs, numbers, names ===== -/
def eqW (T : Nat → Nat) (a : Nat) (l : List Nat) : Nat → Nat → Bool
  | 0, _ => true
  | m + 1, i => if T (a + i) = 96 + l.getD i 0 then eqW T a l m (i + 1) else false
theorem eqW_t {T : Nat → Nat} {a : Nat} {l : List Nat} : ∀ m i, eqW T a l m i = true ↔ ∀ j, i ≤ j → j < i + m → T (a + j) = 96 + l.getD j 0
  | 0, i => ⟨fun _ j h1 h2 => by omega, fun _ => rfl⟩
  | m + 1, i => by
    by_cases q : T (a + i) = 96 + l.getD i 0
    · rw [show eqW T a l (m + 1) i = eqW T a l m (i + 1) from if_pos q, eqW_t m (i + 1)]
      constructor
      · intro h j h1 h2
        by_cases e : j = i
        · rw [e]; exact q
        · exact h j (by omega) (by omega)
      · intro h j h1 h2
        exact h j (by omega) (by omega)
    · rw [show eqW T a l (m + 1) i = false from if_neg q]
      constructor
      · intro h; cases h
      · intro h; exact absurd (h i (by omega) (by omega)) q
theorem li_e {l k : List Nat} (h : l.length = k.length) (h2 : ∀ j, j < l.length → l.getD j 0 = k.getD j 0) : l = k := by
  apply List.ext_getElem h
  intro i h1 h3
  have := h2 i h1
  rw [List.getD_eq_getElem?_getD, List.getD_eq_getElem?_getD, List.getElem?_eq_getElem h1, List.getElem?_eq_getElem h3] at this
  simpa using this
theorem eqW_l {T : Nat → Nat} {a m : Nat} {l : List Nat} (hl : l.length = m) (hT : ∀ j, j < m → 97 ≤ T (a + j)) : eqW T a l m 0 = true ↔ rlS T m a = l := by
  rw [eqW_t]
  constructor
  · intro h
    refine li_e (by rw [rlS_l, hl]) (fun j hj => ?_)
    rw [rlS_l] at hj
    rw [rlS_g m a j hj, h j (by omega) (by omega)]
    omega
  · intro h j h1 h2
    have := rlS_g (T := T) m a j (by omega)
    rw [h] at this
    have := hT j (by omega)
    omega
/-- moved to the next token -/
def atP (T : Nat → Nat) (n p : Nat) (I : tI) : tI := am_up I 64 2 (am_i (tAt T n p))
theorem am_up_s {α : Type} {f : Nat → Nat → α} {a k : Nat} {v : α} (h : f a k = v) : am_up f a k v = f := by
  funext c j
  by_cases e : c = a ∧ j = k
  · rw [e.1, e.2, am_up_e, h]
  · rw [am_up_o e]
section MREAD
variable {d : Nat} {J : tJ} {R : tR} {T : Nat → Nat} {n p : Nat} {I : tI}
theorem atP_o {q k : Nat} (h : ¬ (q = 64 ∧ k = 2)) : atP T n p I q k = I q k := am_up_o h
theorem atP_2 : atP T n p I 64 2 = am_i (tAt T n p) := am_up_e
theorem atP_a : atP T n p (atP T n p I) = atP T n p I := am_up_up
theorem txM_c {I' : tI} (h : txM T n I) (e : ∀ q k, (q = 65 ∨ fixd q = true) → I' q k = I q k) : txM T n I' := ⟨h.1, fun k hk => ⟨(h.2.1 k hk).1, by rw [e _ _ (Or.inl rfl)]; exact (h.2.1 k hk).2⟩, fun q hq => by rw [← h.2.2 q hq]; exact funext fun k => e q k (Or.inr hq)⟩
theorem fix_n {q : Nat} (h : fixd q = true) : q ≠ 64 := by
  unfold fixd at h
  simp at h
  omega
theorem txM_a (h : txM T n I) : txM T n (atP T n p I) := txM_c h (fun q k e => atP_o (by rcases e with e | e; omega; have := fix_n e; omega))
theorem mrX_a (h : mrX T n p I) (hp : p ≤ n) : mrX T n p (atP T n p I) := by
  obtain ⟨h3, h5, a, e, a1, a2, a3, a4, a5, a6, a7, a8⟩ := h
  exact ⟨by rw [atP_o (by omega)]; exact h3, by rw [atP_o (by omega)]; exact h5, tAt T n p, e, (tAt_b hp).1, Nat.le_refl _, a3, a4, a5, atP_2, by rw [atP_o (by omega)]; exact a7, by rw [atP_o (by omega)]; exact a8⟩
theorem e_look (hm : st_Rm R) (hT : txM T n I) (hp : p ≤ n) (hR : mrX T n p I) : am_E (d + 1) 170 0 [(0, .ref 64)] [] (I, J, R, 138) = some (some (.int (am_i (tC T n p))), (atP T n p I, J, R, 138)) := by
  obtain ⟨h3, h5, a, e, a1, a2, a3, a4, a5, a6, a7, a8⟩ := hR
  exact m_look hm hT hp h3 (tAt T n p - a) a I (by omega) a1 (am_up_s a6).symm
/-- at a token: is it glued -/
theorem gl_e (hn : n ≤ 1600) (hp : p ≤ n) (hR : mrX T n p I) : (atP T n p I 64 2 = atP T n p I 64 4) = (tGl T p (tAt T n p) = true) := by
  obtain ⟨h3, h5, a, e, a1, a2, a3, a4, a5, a6, a7, a8⟩ := hR
  have := tAt_b (T := T) hp
  rw [atP_2, atP_o (by omega), a7, tGl_g hp]
  apply propext
  rw [show (am_i (tAt T n p : Int) = am_i e) = ((tAt T n p : Int) = e) from n_eq (by omega) (by omega) (by omega) (by omega)]
  constructor
  · intro h
    have : tAt T n p = p := by omega
    exact ⟨this, a5.mp (by omega)⟩
  · rintro ⟨h1, h2⟩
    have := a5.mpr h2
    omega
theorem m_ih35 (hm : st_Rm R) (hT : txM T n I) (h3 : I 64 3 = am_i n) {a q : Nat} (ha : a ≤ n) : ∀ (m k : Nat), spn lB T n a = k + m → a ≤ k → am_E (d + 2) 171 35 [(0, .ref 64), (1, .ref q), (2, .int (am_i k))] [] (I, J, R, 138) = am_E (d + 2) 171 61 [(0, .ref 64), (1, .ref q), (2, .int (am_i (spn lB T n a)))] [] (I, J, R, 138)
  | 0, k, hk, hak => by
    obtain ⟨t1, t3, t4⟩ := hT
    rw [Nat.add_zero] at hk
    have nd := sp_nd (c := lB) (T := T) (n := n) a
    have le := sp_le (c := lB) (T := T) (n := n) ha
    rw [hk] at nd le ⊢
    rw [sg_X12_isHere_35]
    by_cases q : k < n
    · have nl : ¬ lB (T k) = true := fun e => nd ⟨q, e⟩
      rw [lB_t] at nl
      obtain ⟨u1, u2⟩ := t3 k q
      have xl := fun d => e_mL (d := d) (c := (T k : Int)) (M := (I, J, R, 138)) (by omega) (by omega)
      have nl' : ¬ (97 ≤ (T k : Int) ∧ (T k : Int) ≤ 122) := by omega
      simp (disch := first | assumption | omega) only [rM hm, ly_csm, ly_cam, ly_cf, ly_kd, ly_ln, ↓Bool.cond_decide, cond_true, cond_false, ↓bI_p, ↓bV_p, ↓bL_p, bIJ_s, bVJ_s, bLJ_s, ↓am_let_s, Nat.blt, Nat.ble, Bool.and_true, Bool.true_and, Bool.and_self, Int.cast_ofNat_Int, am_i_add, am_i_sub, am_i_mul, am_ok_i, am_i_cl, n_lt, n_le, n_eq, n_lt0, n_le0, n_0lt, n_0le, n_eq0, ne_eq, ↓reduceIte, not_true_eq_false, not_false_eq_true, and_true, true_and, and_false, false_and, eq_T, eq_F, lt_T, lt_F, le_T, le_F, qn_T, qn_F, and_F, b01_T, b01_F, e_isIn, Int32.toInt_toInt64, am_i_toInt, am_l_toInt, Int.toNat_natCast, Int.reduceToNat, Int.reduceAdd, Int.reduceSub, Int.reduceMul, Int.reduceNeg, Nat.reduceAdd, Nat.reduceMul, Nat.add_zero, Nat.mul_zero, Nat.zero_add, am_zb0, am_zb1, h3, u2, xl, b01_f nl']
    · simp (disch := first | assumption | omega) only [rM hm, ly_csm, ly_cam, ly_cf, ly_kd, ly_ln, ↓Bool.cond_decide, cond_true, cond_false, ↓bI_p, ↓bV_p, ↓bL_p, bIJ_s, bVJ_s, bLJ_s, ↓am_let_s, Nat.blt, Nat.ble, Bool.and_true, Bool.true_and, Bool.and_self, Int.cast_ofNat_Int, am_i_add, am_i_sub, am_i_mul, am_ok_i, am_i_cl, n_lt, n_le, n_eq, n_lt0, n_le0, n_0lt, n_0le, n_eq0, ne_eq, ↓reduceIte, not_true_eq_false, not_false_eq_true, and_true, true_and, and_false, false_and, eq_T, eq_F, lt_T, lt_F, le_T, le_F, qn_T, qn_F, and_F, b01_T, b01_F, e_isIn, Int32.toInt_toInt64, am_i_toInt, am_l_toInt, Int.toNat_natCast, Int.reduceToNat, Int.reduceAdd, Int.reduceSub, Int.reduceMul, Int.reduceNeg, Nat.reduceAdd, Nat.reduceMul, Nat.add_zero, Nat.mul_zero, Nat.zero_add, am_zb0, am_zb1, h3]
  | m + 1, k, hk, hak => by
    have ih := m_ih35 hm hT h3 (q := q) ha m (k + 1) (by omega) (by omega)
    obtain ⟨t1, t3, t4⟩ := hT
    obtain ⟨k1, k2⟩ := sp_in (c := lB) (T := T) (n := n) (p := a) (q := k) hak (by omega)
    rw [lB_t] at k2
    obtain ⟨u1, u2⟩ := t3 k k1
    have xl := fun d => e_mL (d := d) (c := (T k : Int)) (M := (I, J, R, 138)) (by omega) (by omega)
    have nl' : 97 ≤ (T k : Int) ∧ (T k : Int) ≤ 122 := by omega
    rw [← ih, sg_X12_isHere_35]
    simp (disch := first | assumption | omega) only [rM hm, ly_csm, ly_cam, ly_cf, ly_kd, ly_ln, ↓Bool.cond_decide, cond_true, cond_false, ↓bI_p, ↓bV_p, ↓bL_p, bIJ_s, bVJ_s, bLJ_s, ↓am_let_s, Nat.blt, Nat.ble, Bool.and_true, Bool.true_and, Bool.and_self, Int.cast_ofNat_Int, am_i_add, am_i_sub, am_i_mul, am_ok_i, am_i_cl, n_lt, n_le, n_eq, n_lt0, n_le0, n_0lt, n_0le, n_eq0, ne_eq, ↓reduceIte, not_true_eq_false, not_false_eq_true, and_true, true_and, and_false, false_and, eq_T, eq_F, lt_T, lt_F, le_T, le_F, qn_T, qn_F, and_F, b01_T, b01_F, e_isIn, Int32.toInt_toInt64, am_i_toInt, am_l_toInt, Int.toNat_natCast, Int.reduceToNat, Int.reduceAdd, Int.reduceSub, Int.reduceMul, Int.reduceNeg, Nat.reduceAdd, Nat.reduceMul, Nat.add_zero, Nat.mul_zero, Nat.zero_add, am_zb0, am_zb1, h3, u2, xl, b01_t nl', am_i_s]
theorem wq_f {q : Nat} (hq : isQ q = true) : Nat.blt q 138 = true ∧ am_kd q = (3, (WL (wdQ q)).length) ∧ (∀ R, am_ln R q = (WL (wdQ q)).length) ∧ (∀ i, am_ca 138 q 3 i = am_ok i (WL (wdQ q)).length) ∧ fixd q = true ∧ wdQ q < 32 ∧ (∀ i, i < (WL (wdQ q)).length → am_K0 q i = am_i ((96 + (WL (wdQ q)).getD i 0 : Nat) : Int)) := by
  have hb : q < 138 := by unfold isQ at hq; simp at hq; omega
  have b := Nat.blt_eq.mpr hb
  obtain ⟨k, w, x⟩ := WL_q ⟨q, hb⟩ hq
  have k' : am_kd q = (3, (WL (wdQ q)).length) := k
  have l6 := (WL_b ⟨wdQ q, w⟩).2.1
  refine ⟨b, k', fun R => ?_, fun i => ?_, ?_, w, fun i hi => x ⟨i, by simp only at l6; omega⟩ hi⟩
  · unfold am_ln; rw [k']; rfl
  · unfold am_ca; rw [k', b]; rfl
  · unfold isQ at hq; unfold fixd; simp at hq ⊢; omega
theorem m_ih76 (hm : st_Rm R) (hT : txM T n I) {a q : Nat} (hq : isQ q = true) (h2 : I 64 2 = am_i a) (hn : a + (WL (wdQ q)).length ≤ n) : ∀ (m i : Nat), i + m = (WL (wdQ q)).length → am_E (d + 1) 171 76 [(0, .ref 64), (1, .ref q), (3, .int (am_i i))] [] (I, J, R, 138) = some (some (.int (b01 (eqW T a (WL (wdQ q)) m i = true))), (I, J, R, 138))
  | 0, i, hi => by
    obtain ⟨q1, q2, q3, q4, q5, q6, q7⟩ := wq_f hq
    have n1 := hT.1
    have k3 : Nat.ble 1 3 = true := rfl
    have k5 : Nat.ble 3 5 = true := rfl
    rw [sg_X12_isHere_76, b01_tt (show eqW T a (WL (wdQ q)) 0 i = true from rfl)]
    simp (disch := first | assumption | omega) only [q1, q2, q3, k3, k5, ↓Bool.cond_decide, cond_true, cond_false, ↓am_let_s, ↓bI_p, bIJ_s, ↓bV_p, bVJ_s, ↓bL_p, bLJ_s, ly_cf, Bool.and_self, Bool.and_true, am_i_add, am_i_sub, am_i_mul, am_ok_i, am_i_cl, n_lt, n_le, n_eq, n_lt0, n_le0, n_0lt, n_0le, n_eq0, ne_eq, ↓reduceIte, not_true_eq_false, not_false_eq_true, and_true, true_and, and_false, false_and, eq_T, eq_F, lt_T, lt_F, le_T, le_F, qn_T, qn_F, and_F, b01_T, b01_F, e_isIn, Int32.toInt_toInt64, am_i_toInt, am_l_toInt, Int.toNat_natCast, Int.reduceToNat, Int.reduceAdd, Int.reduceSub, Int.reduceMul, Int.reduceNeg, Nat.reduceAdd, Nat.reduceMul, Nat.add_zero, Nat.mul_zero, Nat.zero_add, am_zb0, am_zb1]
  | m + 1, i, hi => by
    obtain ⟨q1, q2, q3, q4, q5, q6, q7⟩ := wq_f hq
    have n1 := hT.1
    have k3 : Nat.ble 1 3 = true := rfl
    have k5 : Nat.ble 3 5 = true := rfl
    obtain ⟨u1, u2⟩ := hT.2.1 (a + i) (by omega)
    have ea : ((a : Int) + (i : Int)).toNat = a + i := by omega
    have eq : I q i = am_i ((96 + (WL (wdQ q)).getD i 0 : Nat) : Int) := by rw [hT.2.2 q q5]; exact q7 i (by omega)
    obtain ⟨-, b2, b3⟩ := WL_b ⟨wdQ q, q6⟩
    have hi' : i < (WL (wdQ q)).length := by omega
    have bx : (WL (wdQ q)).getD i 0 ≤ 26 := by
      rw [List.getD_eq_getElem?_getD, List.getElem?_eq_getElem hi']
      exact (b3 _ (List.getElem_mem hi')).2
    have q1' : Nat.ble q 137 = true := by have := Nat.blt_eq.mp q1; rw [Nat.ble_eq]; omega
    rw [sg_X12_isHere_76]
    by_cases c : T (a + i) = 96 + (WL (wdQ q)).getD i 0
    · have ih := m_ih76 hm hT hq h2 hn m (i + 1) (by omega)
      rw [show eqW T a (WL (wdQ q)) (m + 1) i = eqW T a (WL (wdQ q)) m (i + 1) from if_pos c]
      simp (disch := first | assumption | omega) only [q1, q1', q2, q3, q4, k3, k5, rM hm, ly_csm, ly_cam, ly_cf, ly_kd, ly_ln, ↓Bool.cond_decide, cond_true, cond_false, ↓bI_p, ↓bV_p, ↓bL_p, bIJ_s, bVJ_s, bLJ_s, ↓am_let_s, Nat.blt, Nat.ble, Bool.and_true, Bool.true_and, Bool.and_self, Int.cast_ofNat_Int, am_i_add, am_i_sub, am_i_mul, am_ok_i, am_i_cl, n_lt, n_le, n_eq, n_lt0, n_le0, n_0lt, n_0le, n_eq0, ne_eq, ↓reduceIte, not_true_eq_false, not_false_eq_true, and_true, true_and, and_false, false_and, eq_T, eq_F, lt_T, lt_F, le_T, le_F, qn_T, qn_F, and_F, b01_T, b01_F, e_isIn, Int32.toInt_toInt64, am_i_toInt, am_l_toInt, Int.toNat_natCast, Int.reduceToNat, Int.reduceAdd, Int.reduceSub, Int.reduceMul, Int.reduceNeg, Nat.reduceAdd, Nat.reduceMul, Nat.add_zero, Nat.mul_zero, Nat.zero_add, am_zb0, am_zb1, h2, ea, u2, eq, c, am_i_s, ih]
    · rw [b01_ff (show eqW T a (WL (wdQ q)) (m + 1) i = false from if_neg c)]
      simp (disch := first | assumption | omega) only [q1, q1', q2, q3, q4, k3, k5, rM hm, ly_csm, ly_cam, ly_cf, ly_kd, ly_ln, ↓Bool.cond_decide, cond_true, cond_false, ↓bI_p, ↓bV_p, ↓bL_p, bIJ_s, bVJ_s, bLJ_s, ↓am_let_s, Nat.blt, Nat.ble, Bool.and_true, Bool.true_and, Bool.and_self, Int.cast_ofNat_Int, am_i_add, am_i_sub, am_i_mul, am_ok_i, am_i_cl, n_lt, n_le, n_eq, n_lt0, n_le0, n_0lt, n_0le, n_eq0, ne_eq, ↓reduceIte, not_true_eq_false, not_false_eq_true, and_true, true_and, and_false, false_and, eq_T, eq_F, lt_T, lt_F, le_T, le_F, qn_T, qn_F, and_F, b01_T, b01_F, e_isIn, Int32.toInt_toInt64, am_i_toInt, am_l_toInt, Int.toNat_natCast, Int.reduceToNat, Int.reduceAdd, Int.reduceSub, Int.reduceMul, Int.reduceNeg, Nat.reduceAdd, Nat.reduceMul, Nat.add_zero, Nat.mul_zero, Nat.zero_add, am_zb0, am_zb1, h2, ea, u2, eq]
theorem m_isHere (hm : st_Rm R) (hT : txM T n I) (hp : p ≤ n) (hR : mrX T n p I) {q : Nat} (hq : isQ q = true) : am_E (d + 2) 171 0 [(0, .ref 64), (1, .ref q)] [] (I, J, R, 138) = some (some (.int (b01 (tW T n p = (wdQ q : Nat)))), (atP T n p I, J, R, 138)) := by
  have lk := fun d => e_look (d := d) (J := J) hm hT hp hR
  obtain ⟨q1, q2, q3, q4, q5, q6, q7⟩ := wq_f hq
  have n1 := hT.1
  have tb := tC_b (T := T) (n := n) (p := p) (fun k hk => (hT.2.1 k hk).1)
  have h5 : I 64 5 = am_i 0 := hR.2.1
  have xl := fun d => e_mL (d := d) (c := tC T n p) (M := (atP T n p I, J, R, 138)) tb.1 tb.2
  have hTa := txM_a (p := p) hT
  have ge := gl_e hT.1 hp hR
  have ab := tAt_b (T := T) hp
  rw [sg_X12_isHere_0]
  by_cases k1 : tK T n p = 1
  · obtain ⟨a1, a2, a3⟩ := tK_1.mp k1
    have ec : tC T n p = (T (tAt T n p) : Int) := if_pos a1
    have l1 : 97 ≤ tC T n p ∧ tC T n p ≤ 122 := by rw [lB_t] at a2; rw [ec]; omega
    have g' : (am_i (tAt T n p : Int) = atP T n p I 64 4) = False := by rw [← atP_2 (T := T) (n := n) (p := p) (I := I), ge]; exact eq_false a3
    have e3 : atP T n p I 64 3 = am_i n := by rw [atP_o (by omega)]; exact hR.1
    have w35 := fun d => m_ih35 (d := d) (J := J) (q := q) hm hTa e3 ab.2 (spn lB T n (tAt T n p) - tAt T n p) (tAt T n p) (by have := sp_ge (c := lB) (T := T) (n := n) (tAt T n p); omega) (Nat.le_refl _)
    have eE := tE_1 k1
    have eb := tE_b (T := T) hp
    have k3 : Nat.ble 1 3 = true := rfl
    have k5 : Nat.ble 3 5 = true := rfl
    have eW : tW T n p = wix (tL T n p) := if_pos k1
    have es : ((spn lB T n (tAt T n p) : Nat) : Int) - (tAt T n p : Int) = ((tN T n p : Nat) : Int) := by unfold tN; rw [eE]; omega
    have l6 : (WL (wdQ q)).length ≤ 6 := (WL_b ⟨wdQ q, q6⟩).2.1
    have a2' : atP T n p I 64 2 = am_i (tAt T n p) := atP_2
    have nb : tN T n p ≤ 1600 := by unfold tN; omega
    have xl' := xl
    by_cases cl : tN T n p = (WL (wdQ q)).length
    · have hN : tAt T n p + tN T n p = tE T n p := by unfold tN; omega
      have w76 : ∀ d, am_E (d + 1) 171 76 [(0, .ref 64), (1, .ref q), (3, .int (am_i 0))] [] (atP T n p I, J, R, 138) = _ := fun d => m_ih76 (d := d) (J := J) hm hTa hq atP_2 (by omega) (WL (wdQ q)).length 0 (by omega)
      have iff : eqW T (tAt T n p) (WL (wdQ q)) (WL (wdQ q)).length 0 = true ↔ tW T n p = (wdQ q : Nat) := by
        rw [eW, wix_i q6, eqW_l rfl (fun j hj => by
          obtain ⟨-, k⟩ := sp_in (c := lB) (T := T) (n := n) (p := tAt T n p) (q := tAt T n p + j) (by omega) (by omega)
          exact (lB_t.mp k).1)]
        unfold tL
        rw [cl]
      have eb : b01 (tW T n p = (wdQ q : Nat)) = b01 (eqW T (tAt T n p) (WL (wdQ q)) (WL (wdQ q)).length 0 = true) := by
        by_cases c : tW T n p = (wdQ q : Nat)
        · rw [b01_t c, b01_t (iff.mpr c)]
        · rw [b01_f c, b01_f (fun e => c (iff.mp e))]
      rw [eb]
      have w61 : ∀ d, am_E (d + 2) 171 61 [(0, .ref 64), (1, .ref q), (2, .int (am_i (spn lB T n (tAt T n p))))] [] (atP T n p I, J, R, 138) = some (some (.int (b01 (eqW T (tAt T n p) (WL (wdQ q)) (WL (wdQ q)).length 0 = true))), (atP T n p I, J, R, 138)) := fun d => by
        rw [sg_X12_isHere_61]
        simp (disch := first | assumption | omega) only [q1, q2, q3, k3, k5, ↓Bool.cond_decide, cond_true, cond_false, ↓am_let_s, ↓bI_p, bIJ_s, ↓bV_p, bVJ_s, ↓bL_p, bLJ_s, ly_cf, Bool.and_self, Bool.and_true, am_i_add, am_i_sub, am_i_mul, am_ok_i, am_i_cl, n_lt, n_le, n_eq, n_lt0, n_le0, n_0lt, n_0le, n_eq0, ne_eq, ↓reduceIte, not_true_eq_false, not_false_eq_true, and_true, true_and, and_false, false_and, eq_T, eq_F, lt_T, lt_F, le_T, le_F, qn_T, qn_F, and_F, b01_T, b01_F, e_isIn, Int32.toInt_toInt64, am_i_toInt, am_l_toInt, Int.toNat_natCast, Int.reduceToNat, Int.reduceAdd, Int.reduceSub, Int.reduceMul, Int.reduceNeg, Nat.reduceAdd, Nat.reduceMul, Nat.add_zero, Nat.mul_zero, Nat.zero_add, am_zb0, am_zb1, a2', es, cl, w76]
      simp (disch := first | assumption | omega) only [↓Bool.cond_decide, cond_true, cond_false, ↓am_let_s, ↓bI_p, bIJ_s, ↓bV_p, bVJ_s, ↓bL_p, bLJ_s, ly_cf, Bool.and_self, Bool.and_true, h5, lk, xl, b01_t l1, am_i_add, am_i_sub, am_i_mul, am_ok_i, am_i_cl, n_lt, n_le, n_eq, n_lt0, n_le0, n_0lt, n_0le, n_eq0, ne_eq, ↓reduceIte, not_true_eq_false, not_false_eq_true, and_true, true_and, and_false, false_and, eq_T, eq_F, lt_T, lt_F, le_T, le_F, qn_T, qn_F, and_F, b01_T, b01_F, e_isIn, Int32.toInt_toInt64, am_i_toInt, am_l_toInt, Int.toNat_natCast, Int.reduceToNat, Int.reduceAdd, Int.reduceSub, Int.reduceMul, Int.reduceNeg, Nat.reduceAdd, Nat.reduceMul, Nat.add_zero, Nat.mul_zero, Nat.zero_add, am_zb0, am_zb1, g', a2', w35, w61]
    · have nw : ¬ tW T n p = (wdQ q : Nat) := by
        rw [eW, wix_i q6]
        intro e
        apply cl
        rw [← e]
        unfold tL
        rw [rlS_l]
      rw [b01_f nw]
      have w61 : ∀ d, am_E (d + 2) 171 61 [(0, .ref 64), (1, .ref q), (2, .int (am_i (spn lB T n (tAt T n p))))] [] (atP T n p I, J, R, 138) = some (some (.int (am_i 0)), (atP T n p I, J, R, 138)) := fun d => by
        rw [sg_X12_isHere_61]
        simp (disch := first | assumption | omega) only [q1, q2, q3, k3, k5, ↓Bool.cond_decide, cond_true, cond_false, ↓am_let_s, ↓bI_p, bIJ_s, ↓bV_p, bVJ_s, ↓bL_p, bLJ_s, ly_cf, Bool.and_self, Bool.and_true, am_i_add, am_i_sub, am_i_mul, am_ok_i, am_i_cl, n_lt, n_le, n_eq, n_lt0, n_le0, n_0lt, n_0le, n_eq0, ne_eq, ↓reduceIte, not_true_eq_false, not_false_eq_true, and_true, true_and, and_false, false_and, eq_T, eq_F, lt_T, lt_F, le_T, le_F, qn_T, qn_F, and_F, b01_T, b01_F, e_isIn, Int32.toInt_toInt64, am_i_toInt, am_l_toInt, Int.toNat_natCast, Int.reduceToNat, Int.reduceAdd, Int.reduceSub, Int.reduceMul, Int.reduceNeg, Nat.reduceAdd, Nat.reduceMul, Nat.add_zero, Nat.mul_zero, Nat.zero_add, am_zb0, am_zb1, a2', es]
      simp (disch := first | assumption | omega) only [↓Bool.cond_decide, cond_true, cond_false, ↓am_let_s, ↓bI_p, bIJ_s, ↓bV_p, bVJ_s, ↓bL_p, bLJ_s, ly_cf, Bool.and_self, Bool.and_true, h5, lk, xl, b01_t l1, am_i_add, am_i_sub, am_i_mul, am_ok_i, am_i_cl, n_lt, n_le, n_eq, n_lt0, n_le0, n_0lt, n_0le, n_eq0, ne_eq, ↓reduceIte, not_true_eq_false, not_false_eq_true, and_true, true_and, and_false, false_and, eq_T, eq_F, lt_T, lt_F, le_T, le_F, qn_T, qn_F, and_F, b01_T, b01_F, e_isIn, Int32.toInt_toInt64, am_i_toInt, am_l_toInt, Int.toNat_natCast, Int.reduceToNat, Int.reduceAdd, Int.reduceSub, Int.reduceMul, Int.reduceNeg, Nat.reduceAdd, Nat.reduceMul, Nat.add_zero, Nat.mul_zero, Nat.zero_add, am_zb0, am_zb1, g', a2', w35, w61]
  · have eW : tW T n p = -1 := if_neg k1
    rw [b01_f (by rw [eW]; omega)]
    by_cases l1 : 97 ≤ tC T n p ∧ tC T n p ≤ 122
    · have a1 : tAt T n p < n := by
        by_cases c : tAt T n p < n
        · exact c
        · have : tC T n p = -1 := if_neg c
          omega
      have ec : tC T n p = (T (tAt T n p) : Int) := if_pos a1
      have a2 : lB (T (tAt T n p)) = true := by rw [lB_t]; omega
      have a3 : tGl T p (tAt T n p) = true := by
        by_cases c : tGl T p (tAt T n p) = true
        · exact c
        · exact absurd (tK_1.mpr ⟨a1, a2, c⟩) k1
      have g' : (atP T n p I 64 2 = atP T n p I 64 4) = True := by rw [ge]; exact eq_true a3
      simp (disch := first | assumption | omega) only [↓Bool.cond_decide, cond_true, cond_false, ↓am_let_s, ↓bI_p, bIJ_s, ↓bV_p, bVJ_s, ↓bL_p, bLJ_s, ly_cf, Bool.and_self, Bool.and_true, h5, lk, xl, b01_t l1, am_i_add, am_i_sub, am_i_mul, am_ok_i, am_i_cl, n_lt, n_le, n_eq, n_lt0, n_le0, n_0lt, n_0le, n_eq0, ne_eq, ↓reduceIte, not_true_eq_false, not_false_eq_true, and_true, true_and, and_false, false_and, eq_T, eq_F, lt_T, lt_F, le_T, le_F, qn_T, qn_F, and_F, b01_T, b01_F, e_isIn, Int32.toInt_toInt64, am_i_toInt, am_l_toInt, Int.toNat_natCast, Int.reduceToNat, Int.reduceAdd, Int.reduceSub, Int.reduceMul, Int.reduceNeg, Nat.reduceAdd, Nat.reduceMul, Nat.add_zero, Nat.mul_zero, Nat.zero_add, am_zb0, am_zb1, g', sg_X12_isHere_28]
    · simp (disch := first | assumption | omega) only [↓Bool.cond_decide, cond_true, cond_false, ↓am_let_s, ↓bI_p, bIJ_s, ↓bV_p, bVJ_s, ↓bL_p, bLJ_s, ly_cf, Bool.and_self, Bool.and_true, h5, lk, xl, b01_f l1, am_i_add, am_i_sub, am_i_mul, am_ok_i, am_i_cl, n_lt, n_le, n_eq, n_lt0, n_le0, n_0lt, n_0le, n_eq0, ne_eq, ↓reduceIte, not_true_eq_false, not_false_eq_true, and_true, true_and, and_false, false_and, eq_T, eq_F, lt_T, lt_F, le_T, le_F, qn_T, qn_F, and_F, b01_T, b01_F, e_isIn, Int32.toInt_toInt64, am_i_toInt, am_l_toInt, Int.toNat_natCast, Int.reduceToNat, Int.reduceAdd, Int.reduceSub, Int.reduceMul, Int.reduceNeg, Nat.reduceAdd, Nat.reduceMul, Nat.add_zero, Nat.mul_zero, Nat.zero_add, am_zb0, am_zb1, sg_X12_isHere_28]
end MREAD
