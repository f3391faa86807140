/-! ===== a question's value: the class ===== -/
section XRUNQ
variable {d : Nat} {I : tI} {J : tJ} {R : tR} {m : Nat}
theorem x_loopQ {aw : Nat → Prop} {cc e : Nat} {en : Nat → Int} {e1 : Nat → Int → Int} {q sw : Bool} {b : Bool} {I0 : tI} (hx : st_Rx R) (hm : m = 36 ∨ m = 43) (hcc : cc = 9 ∨ cc = 17 ∨ cc = 27) (he : e ≤ 1600)
    (hen : ∀ w, wdOK q sw w → -1000000 ≤ en w ∧ en w ≤ 1000000 ∧ w < 26 ∧ I0 (m + 1) w = am_i (en w))
    (he1 : ∀ w v, aw w → (w = 9 ∨ w = 5) → -1000000 ≤ v → v ≤ 1000000 → -1000000 ≤ e1 w v ∧ e1 w v ≤ 1000000 ∧ ∀ d I, fr (mcS m) I0 I → am_E (d + 1) 53 0 [(0, .ref m), (1, .int (am_i w)), (2, .int (am_i v))] [] (I, J, R, 138) = some (some (.int (am_i (e1 w v))), (I, J, R, 138))) :
    ∀ (p : List tok) (i : Nat) (bs : List Bool) (vs : List Int) (I : tI), tokOK bs p = some [b] → (∀ t ∈ p, tokW q sw t) → (∀ t ∈ p, t.1 = 5 → aw t.2) → bs.length ≤ 63 → stT bs vs → fr (mcS m) I0 I → stA (I (m + 4)) vs → I m 5 = am_i vs.length → i + p.length = e → (∀ k t, p[k]? = some t → I0 cc (i + k) = am_i (encX t)) →
      ∃ v, ev en e1 vs p = [v] ∧ vOK b v ∧ xG m J R v I0 (am_E (d + 3) 49 12 [(0, .ref m), (1, .ref cc), (3, .int (am_i e)), (4, .int (am_i i))] [] (I, J, R, 138))
  | [], i, bs, vs, I, hOK, hW, hAw, h63, hT, hf, hA, hL, hi, hC => by
    have hbs : bs = [b] := by simpa [tokOK] using hOK
    subst hbs
    obtain ⟨v, r, rfl, h1, h2⟩ := stT_1 hT
    have hr : r = [] := by cases r with | nil => rfl | cons _ _ => exact h2.elim
    subst hr
    have hi' : i = e := by simpa using hi
    subst hi'
    have e2 := fun d => x_pop (d := d) (J := J) (I := I) (L := 0) (v := v) hx hm hL hA.1 (by omega)
    refine ⟨v, rfl, h1, pO I m 0, ?_, pO_f hf⟩
    rw [sg_X6_run_12]
    simp (disch := first | assumption | omega) only [am_i_add, am_i_sub, am_i_mul, am_ok_i, am_i_cl, n_lt, n_le, n_eq, n_lt0, n_le0, n_0lt, n_0le, n_eq0, ne_eq, ↓reduceIte, not_true_eq_false, not_false_eq_true, and_true, true_and, and_false, false_and, eq_T, eq_F, lt_T, lt_F, le_T, le_F, qn_T, qn_F, and_F, b01_T, b01_F, e_isIn, Int32.toInt_toInt64, am_i_toInt, am_l_toInt, Int.toNat_natCast, Int.reduceToNat, Int.reduceAdd, Int.reduceSub, Int.reduceMul, Int.reduceNeg, Nat.reduceAdd, Nat.reduceMul, Nat.add_zero, Nat.mul_zero, Nat.zero_add, am_zb0, am_zb1, ↓Bool.cond_decide, cond_true, cond_false, ↓bI_p, bIJ_s, rMa hx hm, rCo (R := R) hcc, e2, sg_X6_run_146]
  | (k, x) :: p, i, bs, vs, I, hOK, hW, hAw, h63, hT, hf, hA, hL, hi, hC => by
    have hWt := hW _ List.mem_cons_self
    have hWp : ∀ t ∈ p, tokW q sw t := fun t ht => hW t (List.mem_cons_of_mem _ ht)
    have hCp : ∀ k t, p[k]? = some t → I0 cc (i + 1 + k) = am_i (encX t) := fun k t h => by
      have := hC (k + 1) t h
      rw [show i + 1 + k = i + (k + 1) by omega]
      exact this
    have hi' : i + 1 + p.length = e := by
      have : i + (p.length + 1) = e := hi
      omega
    have hcm : ∀ j, mcS m cc j = false := fun j => by
      unfold mcS
      rcases hm with rfl | rfl <;> rcases hcc with rfl | rfl | rfl <;> rfl
    have hmm : ∀ j, mcS m (m + 1) j = false := fun j => by
      unfold mcS
      rcases hm with rfl | rfl <;> rfl
    have h0 : I cc i = am_i (encX (k, x)) := by
      rw [hf cc i (hcm i)]
      exact hC 0 _ rfl
    have hlen := stT_len hT
    simp only [tokOK] at hOK
    cases hD : tokD bs (k, x) with
    | none => rw [hD] at hOK; cases hOK
    | some bs' =>
      rw [hD] at hOK
      simp only at hOK
      split at hOK
      · next h63' =>
        rcases tokD_c hD with ⟨rfl, rfl⟩ | ⟨rfl, rfl⟩ | ⟨rfl, r, rfl, rfl⟩ | ⟨rfl, r, rfl, rfl, hs⟩ | ⟨rfl, r, rfl, rfl, hs⟩ | ⟨rfl, rfl⟩ | ⟨rfl, r, rfl, rfl⟩
        · -- a number
          have hx9 : x ≤ 9999 := hWt
          obtain ⟨f1, f2⟩ := sym4 (k := 0) (s := x) (v := I cc i) (by rw [h0]; congr 1 <;> simp [encX]) (by omega) (by omega)
          rw [List.length_cons] at h63'
          obtain ⟨v, g1, g2, g3⟩ := x_loopQ hx hm hcc he hen he1 p (i + 1) _ ((x : Int) :: vs) (pU I m vs.length x) hOK hWp (fun t ht => hAw t (List.mem_cons_of_mem _ ht)) h63' ⟨⟨by omega, by omega, fun h => by cases h⟩, hT⟩ (pU_f hf) (pU_a hA) pU_t hi' hCp
          refine ⟨v, g1, g2, ?_⟩
          have e2 := fun d => x_push (d := d) (J := J) (v := (x : Int)) hx hm hL (by omega)
          rw [sg_X6_run_12]
          simp (disch := first | assumption | omega) only [am_i_add, am_i_sub, am_i_mul, am_ok_i, am_i_cl, n_lt, n_le, n_eq, n_lt0, n_le0, n_0lt, n_0le, n_eq0, ne_eq, ↓reduceIte, not_true_eq_false, not_false_eq_true, and_true, true_and, and_false, false_and, eq_T, eq_F, lt_T, lt_F, le_T, le_F, qn_T, qn_F, and_F, b01_T, b01_F, e_isIn, Int32.toInt_toInt64, am_i_toInt, am_l_toInt, Int.toNat_natCast, Int.reduceToNat, Int.reduceAdd, Int.reduceSub, Int.reduceMul, Int.reduceNeg, Nat.reduceAdd, Nat.reduceMul, Nat.add_zero, Nat.mul_zero, Nat.zero_add, am_zb0, am_zb1, ↓Bool.cond_decide, cond_true, cond_false, ↓am_let_s, ↓bI_p, bIJ_s, ↓bV_p, bVJ_s, rMa hx hm, rCo (R := R) hcc, Bool.and_self, f1, f2, e2, inz, sg_X6_run_140, am_i_s]
          exact g3
        · -- a word that tells a number
          obtain ⟨q1, q2, q3, q4⟩ := hen x hWt
          obtain ⟨f1, f2⟩ := sym4 (k := 1) (s := x) (v := I cc i) (by rw [h0]; congr 1 <;> simp [encX]) (by omega) (by omega)
          rw [List.length_cons] at h63'
          obtain ⟨v, g1, g2, g3⟩ := x_loopQ hx hm hcc he hen he1 p (i + 1) _ (en x :: vs) (pU I m vs.length (en x)) hOK hWp (fun t ht => hAw t (List.mem_cons_of_mem _ ht)) h63' ⟨⟨q1, q2, fun h => by cases h⟩, hT⟩ (pU_f hf) (pU_a hA) pU_t hi' hCp
          refine ⟨v, g1, g2, ?_⟩
          have e2 := fun d => x_push (d := d) (J := J) (v := en x) hx hm hL (by omega)
          have e3 : I (m + 1) x = am_i (en x) := by rw [hf _ _ (hmm x)]; exact q4
          rw [sg_X6_run_12]
          simp (disch := first | assumption | omega) only [am_i_add, am_i_sub, am_i_mul, am_ok_i, am_i_cl, n_lt, n_le, n_eq, n_lt0, n_le0, n_0lt, n_0le, n_eq0, ne_eq, ↓reduceIte, not_true_eq_false, not_false_eq_true, and_true, true_and, and_false, false_and, eq_T, eq_F, lt_T, lt_F, le_T, le_F, qn_T, qn_F, and_F, b01_T, b01_F, e_isIn, Int32.toInt_toInt64, am_i_toInt, am_l_toInt, Int.toNat_natCast, Int.reduceToNat, Int.reduceAdd, Int.reduceSub, Int.reduceMul, Int.reduceNeg, Nat.reduceAdd, Nat.reduceMul, Nat.add_zero, Nat.mul_zero, Nat.zero_add, am_zb0, am_zb1, ↓Bool.cond_decide, cond_true, cond_false, ↓am_let_s, ↓bI_p, bIJ_s, ↓bV_p, bVJ_s, rMa hx hm, rCo (R := R) hcc, Bool.and_self, f1, f2, e2, e3, inz, sg_X6_valueOf_0, sg_X6_run_140, am_i_s]
          exact g3
        · -- not
          obtain ⟨w, r', rfl, h1, h2⟩ := stT_1 hT
          have hx0 : x = 0 := hWt
          subst hx0
          obtain ⟨f1, f2⟩ := sym4 (k := 2) (s := 22) (v := I cc i) (by rw [h0]; congr 1) (by omega) (by omega)
          have hl2 := stT_len h2
          have hw01 := h1.2.2 rfl
          rw [List.length_cons] at h63'
          obtain ⟨v, g1, g2, g3⟩ := x_loopQ hx hm hcc he hen he1 p (i + 1) _ ((1 - w) :: r') (pU (pO I m r'.length) m r'.length (1 - w)) hOK hWp (fun t ht => hAw t (List.mem_cons_of_mem _ ht)) h63' ⟨⟨by omega, by omega, fun _ => by omega⟩, h2⟩ (pU_f (pO_f hf)) (pU_a (by rw [pO_a]; exact hA.2)) pU_t hi' hCp
          refine ⟨v, g1, g2, ?_⟩
          have e1' := fun d => x_pop (d := d) (J := J) hx hm hL hA.1 (by omega)
          have e2 := fun d => x_push (d := d) (J := J) (I := pO I m r'.length) (v := 1 - w) hx hm pO_t (by omega)
          have e3 : am_i ((22 : Nat) : Int) = am_i 22 := rfl
          have f2' : I cc i - am_i 22 = am_i ((10000 * 2 : Nat) : Int) := f2
          rw [sg_X6_run_12]
          simp (disch := first | assumption | omega) only [am_i_add, am_i_sub, am_i_mul, am_ok_i, am_i_cl, n_lt, n_le, n_eq, n_lt0, n_le0, n_0lt, n_0le, n_eq0, ne_eq, ↓reduceIte, not_true_eq_false, not_false_eq_true, and_true, true_and, and_false, false_and, eq_T, eq_F, lt_T, lt_F, le_T, le_F, qn_T, qn_F, and_F, b01_T, b01_F, e_isIn, Int32.toInt_toInt64, am_i_toInt, am_l_toInt, Int.toNat_natCast, Int.reduceToNat, Int.reduceAdd, Int.reduceSub, Int.reduceMul, Int.reduceNeg, Nat.reduceAdd, Nat.reduceMul, Nat.add_zero, Nat.mul_zero, Nat.zero_add, am_zb0, am_zb1, ↓Bool.cond_decide, cond_true, cond_false, ↓am_let_s, ↓bI_p, bIJ_s, ↓bV_p, bVJ_s, rMa hx hm, rCo (R := R) hcc, Bool.and_self, f1, f2', e1', e2, e3, inz, sg_X6_workOne_0, sg_X6_run_140, am_i_s]
          exact g3
        · -- and, or
          obtain ⟨w, u, r', rfl, h1, h1', h2⟩ := stT_2 hT
          have hl2 := stT_len h2
          have hx5 : x < 10000 := by omega
          obtain ⟨f1, f2⟩ := sym4 (k := 3) (s := x) (v := I cc i) (by rw [h0]; congr 1 <;> simp [encX]) hx5 (by omega)
          rw [List.length_cons] at h63'
          obtain ⟨v, g1, g2, g3⟩ := x_loopQ hx hm hcc he hen he1 p (i + 1) _ (op2 x u w :: r') (pU (pO (pO I m (r'.length + 1)) m r'.length) m r'.length (op2 x u w)) hOK hWp (fun t ht => hAw t (List.mem_cons_of_mem _ ht)) h63' ⟨op2_t hs h1' h1, h2⟩ (pU_f (pO_f (pO_f hf))) (pU_a (by rw [pO_a, pO_a]; exact hA.2.2)) pU_t hi' hCp
          refine ⟨v, g1, g2, ?_⟩
          have e1' := fun d => x_pop (d := d) (J := J) (L := r'.length + 1) hx hm hL hA.1 (by simp at h63; omega)
          have e1'' := fun d => x_pop (d := d) (J := J) (I := pO I m (r'.length + 1)) (L := r'.length) (v := u) hx hm pO_t (by rw [pO_a]; exact hA.2.1) (by omega)
          have e2 := fun d => x_push (d := d) (J := J) (I := pO (pO I m (r'.length + 1)) m r'.length) (v := op2 x u w) hx hm pO_t (by omega)
          have e3 := fun d M => x_two (d := d) (M := M) (s := x) hWt h1'.1 h1'.2.1 h1.1 h1.2.1
          rw [sg_X6_run_12]
          simp (disch := first | assumption | omega) only [am_i_add, am_i_sub, am_i_mul, am_ok_i, am_i_cl, n_lt, n_le, n_eq, n_lt0, n_le0, n_0lt, n_0le, n_eq0, ne_eq, ↓reduceIte, not_true_eq_false, not_false_eq_true, and_true, true_and, and_false, false_and, eq_T, eq_F, lt_T, lt_F, le_T, le_F, qn_T, qn_F, and_F, b01_T, b01_F, e_isIn, Int32.toInt_toInt64, am_i_toInt, am_l_toInt, Int.toNat_natCast, Int.reduceToNat, Int.reduceAdd, Int.reduceSub, Int.reduceMul, Int.reduceNeg, Nat.reduceAdd, Nat.reduceMul, Nat.add_zero, Nat.mul_zero, Nat.zero_add, am_zb0, am_zb1, ↓Bool.cond_decide, cond_true, cond_false, ↓am_let_s, ↓bI_p, bIJ_s, ↓bV_p, bVJ_s, rMa hx hm, rCo (R := R) hcc, Bool.and_self, f1, f2, e1', e1'', e2, e3, inz, sg_X6_run_140, am_i_s]
          exact g3
        · -- two numbers
          obtain ⟨w, u, r', rfl, h1, h1', h2⟩ := stT_2 hT
          have hl2 := stT_len h2
          have hx5 : x < 10000 := by
            have : x ∈ [43, 45, 42, 47, 24, 25, 60, 62, 61, 21, 20] := hWt
            simp at this
            omega
          obtain ⟨f1, f2⟩ := sym4 (k := 3) (s := x) (v := I cc i) (by rw [h0]; congr 1 <;> simp [encX]) hx5 (by omega)
          rw [List.length_cons] at h63'
          obtain ⟨v, g1, g2, g3⟩ := x_loopQ hx hm hcc he hen he1 p (i + 1) _ (op2 x u w :: r') (pU (pO (pO I m (r'.length + 1)) m r'.length) m r'.length (op2 x u w)) hOK hWp (fun t ht => hAw t (List.mem_cons_of_mem _ ht)) h63' ⟨op2_n hWt h1' h1, h2⟩ (pU_f (pO_f (pO_f hf))) (pU_a (by rw [pO_a, pO_a]; exact hA.2.2)) pU_t hi' hCp
          refine ⟨v, g1, g2, ?_⟩
          have e1' := fun d => x_pop (d := d) (J := J) (L := r'.length + 1) hx hm hL hA.1 (by simp at h63; omega)
          have e1'' := fun d => x_pop (d := d) (J := J) (I := pO I m (r'.length + 1)) (L := r'.length) (v := u) hx hm pO_t (by rw [pO_a]; exact hA.2.1) (by omega)
          have e2 := fun d => x_push (d := d) (J := J) (I := pO (pO I m (r'.length + 1)) m r'.length) (v := op2 x u w) hx hm pO_t (by omega)
          have e3 := fun d M => x_two (d := d) (M := M) (s := x) hWt h1'.1 h1'.2.1 h1.1 h1.2.1
          rw [sg_X6_run_12]
          simp (disch := first | assumption | omega) only [am_i_add, am_i_sub, am_i_mul, am_ok_i, am_i_cl, n_lt, n_le, n_eq, n_lt0, n_le0, n_0lt, n_0le, n_eq0, ne_eq, ↓reduceIte, not_true_eq_false, not_false_eq_true, and_true, true_and, and_false, false_and, eq_T, eq_F, lt_T, lt_F, le_T, le_F, qn_T, qn_F, and_F, b01_T, b01_F, e_isIn, Int32.toInt_toInt64, am_i_toInt, am_l_toInt, Int.toNat_natCast, Int.reduceToNat, Int.reduceAdd, Int.reduceSub, Int.reduceMul, Int.reduceNeg, Nat.reduceAdd, Nat.reduceMul, Nat.add_zero, Nat.mul_zero, Nat.zero_add, am_zb0, am_zb1, ↓Bool.cond_decide, cond_true, cond_false, ↓am_let_s, ↓bI_p, bIJ_s, ↓bV_p, bVJ_s, rMa hx hm, rCo (R := R) hcc, Bool.and_self, f1, f2, e1', e1'', e2, e3, inz, sg_X6_run_140, am_i_s]
          exact g3
        · -- all
          have hx0 : x = 0 := hWt
          subst hx0
          obtain ⟨f1, f2⟩ := sym4 (k := 0) (s := 1) (v := I cc i) (by rw [h0]; congr 1) (by omega) (by omega)
          rw [List.length_cons] at h63'
          obtain ⟨v, g1, g2, g3⟩ := x_loopQ hx hm hcc he hen he1 p (i + 1) _ ((1 : Int) :: vs) (pU I m vs.length 1) hOK hWp (fun t ht => hAw t (List.mem_cons_of_mem _ ht)) h63' ⟨⟨by omega, by omega, fun h => Or.inr rfl⟩, hT⟩ (pU_f hf) (pU_a hA) pU_t hi' hCp
          refine ⟨v, g1, g2, ?_⟩
          have e2 : ∀ d, am_E (d + 1) 50 0 [(0, .ref m), (1, .int (am_i ((1 : Nat) : Int)))] [] (I, J, R, 138) = _ := fun d => x_push (d := d) (J := J) (v := 1) hx hm hL (by omega)
          rw [sg_X6_run_12]
          simp (disch := first | assumption | omega) only [am_i_add, am_i_sub, am_i_mul, am_ok_i, am_i_cl, n_lt, n_le, n_eq, n_lt0, n_le0, n_0lt, n_0le, n_eq0, ne_eq, ↓reduceIte, not_true_eq_false, not_false_eq_true, and_true, true_and, and_false, false_and, eq_T, eq_F, lt_T, lt_F, le_T, le_F, qn_T, qn_F, and_F, b01_T, b01_F, e_isIn, Int32.toInt_toInt64, am_i_toInt, am_l_toInt, Int.toNat_natCast, Int.reduceToNat, Int.reduceAdd, Int.reduceSub, Int.reduceMul, Int.reduceNeg, Nat.reduceAdd, Nat.reduceMul, Nat.add_zero, Nat.mul_zero, Nat.zero_add, am_zb0, am_zb1, ↓Bool.cond_decide, cond_true, cond_false, ↓am_let_s, ↓bI_p, bIJ_s, ↓bV_p, bVJ_s, rMa hx hm, rCo (R := R) hcc, Bool.and_self, f1, f2, e2, inz, sg_X6_run_140, am_i_s]
          exact g3
        · -- of a value
          obtain ⟨w, r', rfl, h1, h2⟩ := stT_1 hT
          obtain ⟨hq, hx5⟩ := hWt
          obtain ⟨q1, q2, q3⟩ := he1 x w (hAw _ List.mem_cons_self rfl) hx5 h1.1 h1.2.1
          obtain ⟨f1, f2⟩ := sym4 (k := 2) (s := x) (v := I cc i) (by rw [h0]; congr 1 <;> simp [encX]) (by omega) (by omega)
          have hl2 := stT_len h2
          rw [List.length_cons] at h63'
          obtain ⟨v, g1, g2, g3⟩ := x_loopQ hx hm hcc he hen he1 p (i + 1) _ (e1 x w :: r') (pU (pO I m r'.length) m r'.length (e1 x w)) hOK hWp (fun t ht => hAw t (List.mem_cons_of_mem _ ht)) h63' ⟨⟨q1, q2, fun h => by cases h⟩, h2⟩ (pU_f (pO_f hf)) (pU_a (by rw [pO_a]; exact hA.2)) pU_t hi' hCp
          refine ⟨v, g1, g2, ?_⟩
          have e1' := fun d => x_pop (d := d) (J := J) hx hm hL hA.1 (by omega)
          have e2 := fun d => x_push (d := d) (J := J) (I := pO I m r'.length) (v := e1 x w) hx hm pO_t (by omega)
          have e3 := fun d => q3 d (pO I m r'.length) (pO_f hf)
          rw [sg_X6_run_12]
          simp (disch := first | assumption | omega) only [am_i_add, am_i_sub, am_i_mul, am_ok_i, am_i_cl, n_lt, n_le, n_eq, n_lt0, n_le0, n_0lt, n_0le, n_eq0, ne_eq, ↓reduceIte, not_true_eq_false, not_false_eq_true, and_true, true_and, and_false, false_and, eq_T, eq_F, lt_T, lt_F, le_T, le_F, qn_T, qn_F, and_F, b01_T, b01_F, e_isIn, Int32.toInt_toInt64, am_i_toInt, am_l_toInt, Int.toNat_natCast, Int.reduceToNat, Int.reduceAdd, Int.reduceSub, Int.reduceMul, Int.reduceNeg, Nat.reduceAdd, Nat.reduceMul, Nat.add_zero, Nat.mul_zero, Nat.zero_add, am_zb0, am_zb1, ↓Bool.cond_decide, cond_true, cond_false, ↓am_let_s, ↓bI_p, bIJ_s, ↓bV_p, bVJ_s, rMa hx hm, rCo (R := R) hcc, Bool.and_self, f1, f2, e1', e2, e3, inz, sg_X6_run_140, am_i_s]
          exact g3
      · cases hOK
end XRUNQ
