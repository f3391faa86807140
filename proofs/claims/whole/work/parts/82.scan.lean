/-! ===== the class's Scan ===== -/
def tAt (T : Nat → Nat) (n p : Nat) : Nat := spn sB T n p
def tGl (T : Nat → Nat) (p a : Nat) : Bool := decide (a = p ∧ 0 < p) && (lB (T (p - 1)) || dB (T (p - 1)))
def tK (T : Nat → Nat) (n p : Nat) : Nat := if n ≤ tAt T n p then 0 else if lB (T (tAt T n p)) = true then (if tGl T p (tAt T n p) = true then 4 else 1) else if dB (T (tAt T n p)) = true then (if tGl T p (tAt T n p) = true then 4 else 2) else 3
def tE (T : Nat → Nat) (n p : Nat) : Nat := if n ≤ tAt T n p then tAt T n p else if lB (T (tAt T n p)) = true then spn lB T n (tAt T n p) else if dB (T (tAt T n p)) = true then spn dB T n (tAt T n p) else tAt T n p + 1
/-- how many letters or digits; the letters; the number -/
def tN (T : Nat → Nat) (n p : Nat) : Nat := tE T n p - tAt T n p
def tL (T : Nat → Nat) (n p : Nat) : List Nat := rlS T (tN T n p) (tAt T n p)
def nvS (T : Nat → Nat) (a : Nat) : Nat → Nat
  | 0 => 0
  | m + 1 => nvS T a m * 10 + (T (a + m) - 48)
def tV (T : Nat → Nat) (n p : Nat) : Nat := nvS T (tAt T n p) (min 4 (tN T n p))
def scX (T : Nat → Nat) (n p : Nat) (I : tI) : Prop := I 5 2 = am_i n ∧ I 5 3 = am_i (tE T n p) ∧ I 5 4 = am_i (tAt T n p) ∧ I 5 5 = am_i (tK T n p) ∧ I 5 10 = am_i 0 ∧ (tK T n p = 1 → I 5 6 = am_i (tN T n p) ∧ I 5 8 = am_i (wix (tL T n p)) ∧ (tN T n p ≤ 6 → I 5 9 = am_i (pk5 (tL T n p)))) ∧ (tK T n p = 2 → I 5 6 = am_i (tN T n p) ∧ I 5 7 = am_i (tV T n p)) ∧ (tK T n p = 3 → I 5 7 = am_i (T (tAt T n p)))
def txX (T : Nat → Nat) (n : Nat) (I : tI) (R : tR) : Prop := n ≤ 1600 ∧ R 5 1 = 4 ∧ (∀ k, k < n → T k < 256 ∧ I 4 k = am_i (T k)) ∧ I 6 = am_K0 6
section TOK
variable {T : Nat → Nat} {n p : Nat}
theorem tAt_b (h : p ≤ n) : p ≤ tAt T n p ∧ tAt T n p ≤ n := ⟨sp_ge p, sp_le h⟩
theorem tE_b (h : p ≤ n) : tAt T n p ≤ tE T n p ∧ tE T n p ≤ n ∧ (tAt T n p < n → tAt T n p < tE T n p) := by
  have h1 := tAt_b (T := T) h
  unfold tE
  split
  · omega
  · next q0 =>
    split
    · next q =>
      have := sp_ge (c := lB) (T := T) (n := n) (tAt T n p + 1)
      have := sp_le (c := lB) (T := T) (n := n) h1.2
      rw [sp_1 (by omega) q] at *
      omega
    · split
      · next q =>
        have := sp_ge (c := dB) (T := T) (n := n) (tAt T n p + 1)
        have := sp_le (c := dB) (T := T) (n := n) h1.2
        rw [sp_1 (by omega) q] at *
        omega
      · omega
theorem tK_b : tK T n p ≤ 4 := by
  unfold tK
  repeat' split
  all_goals omega
end TOK
theorem lB_t {c : Nat} : lB c = true ↔ 97 ≤ c ∧ c ≤ 122 := by unfold lB; rw [decide_eq_true_eq]
theorem dB_t {c : Nat} : dB c = true ↔ 48 ≤ c ∧ c ≤ 57 := by unfold dB; rw [decide_eq_true_eq]
theorem sB_t {c : Nat} : sB c = true ↔ c = 10 ∨ c = 32 := by unfold sB; rw [decide_eq_true_eq]
theorem lB_f {c : Nat} : lB c = false ↔ ¬ (97 ≤ c ∧ c ≤ 122) := by unfold lB; rw [decide_eq_false_iff_not]
theorem dB_f {c : Nat} : dB c = false ↔ ¬ (48 ≤ c ∧ c ≤ 57) := by unfold dB; rw [decide_eq_false_iff_not]
theorem rlS_s {T : Nat → Nat} : ∀ m a, rlS T (m + 1) a = rlS T m a ++ [T (a + m) - 96]
  | 0, a => rfl
  | m + 1, a => by
    show (T a - 96) :: rlS T (m + 1) (a + 1) = (T a - 96) :: (rlS T m (a + 1) ++ [T (a + (m + 1)) - 96])
    rw [rlS_s m (a + 1), show a + 1 + m = a + (m + 1) by omega]
theorem rlS_m {T : Nat → Nat} : ∀ m a x, x ∈ rlS T m a → ∃ k, k < m ∧ x = T (a + k) - 96
  | 0, a, x, h => by cases h
  | m + 1, a, x, h => by
    rcases List.mem_cons.mp h with q | q
    · exact ⟨0, by omega, q⟩
    · obtain ⟨k, k1, k2⟩ := rlS_m m (a + 1) x q
      exact ⟨k + 1, by omega, by rw [k2, show a + 1 + k = a + (k + 1) by omega]⟩
theorem pk5_s {l : List Nat} {x m : Nat} (hm : l.length = m) (h5 : m ≤ 5) (hx : x < 32) : pk5 l ||| x * 2 ^ (5 * (5 - m)) = pk5 (l ++ [x]) := by
  unfold pk5
  rw [List.foldl_append, List.length_append, hm]
  simp only [List.foldl_cons, List.foldl_nil, List.length_cons, List.length_nil]
  generalize l.foldl (fun a x => 32 * a + x) 0 = F
  have e1 : (32 : Nat) ^ (6 - m) = 2 ^ (5 * (6 - m)) := by rw [show (32 : Nat) = 2 ^ 5 from rfl, ← Nat.pow_mul]
  have e2 : (32 : Nat) ^ (6 - (m + (0 + 1))) = 2 ^ (5 * (5 - m)) := by rw [show (32 : Nat) = 2 ^ 5 from rfl, ← Nat.pow_mul, show 6 - (m + (0 + 1)) = 5 - m by omega]
  have e3 : (2 : Nat) ^ (5 * (6 - m)) = 32 * 2 ^ (5 * (5 - m)) := by rw [show 5 * (6 - m) = 5 + 5 * (5 - m) by omega, Nat.pow_add]
  have pos := Nat.two_pow_pos (5 * (5 - m))
  have h := Nat.two_pow_add_eq_or_of_lt (i := 5 * (6 - m)) (b := x * 2 ^ (5 * (5 - m))) (by rw [e3]; exact Nat.mul_lt_mul_of_pos_right hx pos) F
  rw [e1, e2, Nat.mul_comm F, ← h, e3, Nat.add_mul, Nat.mul_assoc 32 F, Nat.mul_assoc 32, Nat.mul_comm F]
theorem pk5_b {l : List Nat} (h1 : l.length ≤ 6) (hl : ∀ x ∈ l, x < 32) : pk5 l < 2 ^ 30 := by
  have f : ∀ (l : List Nat) (a : Nat), (∀ x ∈ l, x < 32) → l.foldl (fun a x => 32 * a + x) a < (a + 1) * 32 ^ l.length := by
    intro l
    induction l with
    | nil => intro a _; simp
    | cons x l ih =>
      intro a hl
      have h1 := ih (32 * a + x) (fun y hy => hl y (List.mem_cons_of_mem _ hy))
      have h2 := hl x List.mem_cons_self
      show l.foldl (fun a x => 32 * a + x) (32 * a + x) < (a + 1) * 32 ^ (l.length + 1)
      rw [Nat.pow_succ, Nat.mul_comm (32 ^ l.length), ← Nat.mul_assoc]
      exact Nat.lt_of_lt_of_le h1 (Nat.mul_le_mul_right _ (by omega))
  have h := f l 0 hl
  rw [Nat.zero_add, Nat.one_mul] at h
  unfold pk5
  have e : (2 : Nat) ^ 30 = 32 ^ l.length * 32 ^ (6 - l.length) := by
    rw [← Nat.pow_add, show l.length + (6 - l.length) = 6 by omega]
  rw [e]
  exact Nat.mul_lt_mul_of_pos_right h (Nat.pow_pos (by omega))
section SCAN
variable {d : Nat} {J : tJ} {R : tR} {T : Nat → Nat} {n : Nat}
/-- how many bytes of a sort stand from a place on -/
theorem x_run8 (hx : st_Rx R) {I : tI} (hT : txX T n I R) (e2 : I 5 2 = am_i n) {cc : Nat → Bool} {lo hi a : Nat} (hc : ∀ x, cc x = true ↔ lo ≤ x ∧ x ≤ hi) (hlo : lo < 256) (hhi : hi < 256) (ha : a ≤ n) : ∀ (m k : Nat), spn cc T n a = a + k + m → am_E (d + 1) 74 8 [(0, .ref 5), (1, .int (am_i lo)), (2, .int (am_i hi)), (3, .int (am_i k)), (4, .int (am_i (a + k : Nat)))] [] (I, J, R, 138) = some (some (.int (am_i (spn cc T n a - a : Nat))), (I, J, R, 138))
  | 0, k, hk => by
    obtain ⟨t1, t2, t3, t4⟩ := hT
    have nd := sp_nd (c := cc) (T := T) (n := n) a
    have le := sp_le (c := cc) (T := T) (n := n) ha
    have ek : spn cc T n a - a = k := by omega
    rw [hk, Nat.add_zero] at nd le
    rw [ek, sg_X9_run_8]
    by_cases q : a + k < n
    · have nl : ¬ cc (T (a + k)) = true := fun e => nd ⟨q, e⟩
      rw [hc] at nl
      obtain ⟨u1, u2⟩ := t3 (a + k) q
      have et : (((a + k : Nat) : Int)).toNat = a + k := by omega
      by_cases q2 : T (a + k) < lo
      · simp (disch := first | assumption | omega) only [rX hx, ly_csx, ly_cax, ly_cf, ly_kd, ly_ln, ↓Bool.cond_decide, cond_true, cond_false, ↓bI_p, ↓bV_p, ↓bL_p, bIJ_s, bVJ_s, bLJ_s, ↓am_let_s, Nat.blt, Nat.ble, Bool.and_true, Bool.true_and, Bool.and_self, Int.cast_ofNat_Int, am_i_add, am_i_sub, am_i_mul, am_ok_i, am_i_cl, n_lt, n_le, n_eq, n_lt0, n_le0, n_0lt, n_0le, n_eq0, ne_eq, ↓reduceIte, not_true_eq_false, not_false_eq_true, and_true, true_and, and_false, false_and, eq_T, eq_F, lt_T, lt_F, le_T, le_F, qn_T, qn_F, and_F, b01_T, b01_F, e_isIn, Int32.toInt_toInt64, am_i_toInt, am_l_toInt, Int.toNat_natCast, Int.reduceToNat, Int.reduceAdd, Int.reduceSub, Int.reduceMul, Int.reduceNeg, Nat.reduceAdd, Nat.reduceMul, Nat.add_zero, Nat.mul_zero, Nat.zero_add, am_zb0, am_zb1, t2, e2, et, u2, sg_X9_run_48]
      · have q3 : hi < T (a + k) := by omega
        simp (disch := first | assumption | omega) only [rX hx, ly_csx, ly_cax, ly_cf, ly_kd, ly_ln, ↓Bool.cond_decide, cond_true, cond_false, ↓bI_p, ↓bV_p, ↓bL_p, bIJ_s, bVJ_s, bLJ_s, ↓am_let_s, Nat.blt, Nat.ble, Bool.and_true, Bool.true_and, Bool.and_self, Int.cast_ofNat_Int, am_i_add, am_i_sub, am_i_mul, am_ok_i, am_i_cl, n_lt, n_le, n_eq, n_lt0, n_le0, n_0lt, n_0le, n_eq0, ne_eq, ↓reduceIte, not_true_eq_false, not_false_eq_true, and_true, true_and, and_false, false_and, eq_T, eq_F, lt_T, lt_F, le_T, le_F, qn_T, qn_F, and_F, b01_T, b01_F, e_isIn, Int32.toInt_toInt64, am_i_toInt, am_l_toInt, Int.toNat_natCast, Int.reduceToNat, Int.reduceAdd, Int.reduceSub, Int.reduceMul, Int.reduceNeg, Nat.reduceAdd, Nat.reduceMul, Nat.add_zero, Nat.mul_zero, Nat.zero_add, am_zb0, am_zb1, t2, e2, et, u2, sg_X9_run_48]
    · simp (disch := first | assumption | omega) only [rX hx, ly_csx, ly_cax, ly_cf, ly_kd, ly_ln, ↓Bool.cond_decide, cond_true, cond_false, ↓bI_p, ↓bV_p, ↓bL_p, bIJ_s, bVJ_s, bLJ_s, ↓am_let_s, Nat.blt, Nat.ble, Bool.and_true, Bool.true_and, Bool.and_self, Int.cast_ofNat_Int, am_i_add, am_i_sub, am_i_mul, am_ok_i, am_i_cl, n_lt, n_le, n_eq, n_lt0, n_le0, n_0lt, n_0le, n_eq0, ne_eq, ↓reduceIte, not_true_eq_false, not_false_eq_true, and_true, true_and, and_false, false_and, eq_T, eq_F, lt_T, lt_F, le_T, le_F, qn_T, qn_F, and_F, b01_T, b01_F, e_isIn, Int32.toInt_toInt64, am_i_toInt, am_l_toInt, Int.toNat_natCast, Int.reduceToNat, Int.reduceAdd, Int.reduceSub, Int.reduceMul, Int.reduceNeg, Nat.reduceAdd, Nat.reduceMul, Nat.add_zero, Nat.mul_zero, Nat.zero_add, am_zb0, am_zb1, t2, e2, sg_X9_run_48]
  | m + 1, k, hk => by
    obtain ⟨t1, t2, t3, t4⟩ := hT
    obtain ⟨k1, k2⟩ := sp_in (c := cc) (T := T) (n := n) (p := a) (q := a + k) (by omega) (by omega)
    rw [hc] at k2
    obtain ⟨u1, u2⟩ := t3 (a + k) k1
    have et : (((a + k : Nat) : Int)).toNat = a + k := by omega
    have es : ((a + k : Nat) : Int) + 1 = ((a + (k + 1) : Nat) : Int) := by omega
    have ih := x_run8 hx ⟨t1, t2, t3, t4⟩ e2 hc hlo hhi ha m (k + 1) (by omega)
    rw [← ih, sg_X9_run_8]
    simp (disch := first | assumption | omega) only [rX hx, ly_csx, ly_cax, ly_cf, ly_kd, ly_ln, ↓Bool.cond_decide, cond_true, cond_false, ↓bI_p, ↓bV_p, ↓bL_p, bIJ_s, bVJ_s, bLJ_s, ↓am_let_s, Nat.blt, Nat.ble, Bool.and_true, Bool.true_and, Bool.and_self, Int.cast_ofNat_Int, am_i_add, am_i_sub, am_i_mul, am_ok_i, am_i_cl, n_lt, n_le, n_eq, n_lt0, n_le0, n_0lt, n_0le, n_eq0, ne_eq, ↓reduceIte, not_true_eq_false, not_false_eq_true, and_true, true_and, and_false, false_and, eq_T, eq_F, lt_T, lt_F, le_T, le_F, qn_T, qn_F, and_F, b01_T, b01_F, e_isIn, Int32.toInt_toInt64, am_i_toInt, am_l_toInt, Int.toNat_natCast, Int.reduceToNat, Int.reduceAdd, Int.reduceSub, Int.reduceMul, Int.reduceNeg, Nat.reduceAdd, Nat.reduceMul, Nat.add_zero, Nat.mul_zero, Nat.zero_add, am_zb0, am_zb1, t2, e2, et, u2, am_i_s, es]
theorem x_run (hx : st_Rx R) {I : tI} (hT : txX T n I R) (e2 : I 5 2 = am_i n) {cc : Nat → Bool} {lo hi a : Nat} (e4 : I 5 4 = am_i a) (hc : ∀ x, cc x = true ↔ lo ≤ x ∧ x ≤ hi) (hlo : lo < 256) (hhi : hi < 256) (ha : a ≤ n) : am_E (d + 1) 74 0 [(0, .ref 5), (1, .int (am_i lo)), (2, .int (am_i hi))] [] (I, J, R, 138) = some (some (.int (am_i (spn cc T n a - a : Nat))), (I, J, R, 138)) := by
  have g := sp_ge (c := cc) (T := T) (n := n) a
  have f := x_run8 (d := d) (J := J) hx hT e2 hc hlo hhi ha (spn cc T n a - a) 0 (by omega)
  have f' : am_E (d + 1) 74 8 [(0, .ref 5), (1, .int (am_i lo)), (2, .int (am_i hi)), (3, .int (am_i 0)), (4, .int (am_i a))] [] (I, J, R, 138) = some (some (.int (am_i (spn cc T n a - a : Nat))), (I, J, R, 138)) := f
  rw [sg_X9_run_0]
  simp (disch := first | assumption | omega) only [rX hx, ly_csx, ly_cax, ly_cf, ly_kd, ly_ln, ↓Bool.cond_decide, cond_true, cond_false, ↓bI_p, ↓bV_p, ↓bL_p, bIJ_s, bVJ_s, bLJ_s, ↓am_let_s, Nat.blt, Nat.ble, Bool.and_true, Bool.true_and, Bool.and_self, Int.cast_ofNat_Int, am_i_add, am_i_sub, am_i_mul, am_ok_i, am_i_cl, n_lt, n_le, n_eq, n_lt0, n_le0, n_0lt, n_0le, n_eq0, ne_eq, ↓reduceIte, not_true_eq_false, not_false_eq_true, and_true, true_and, and_false, false_and, eq_T, eq_F, lt_T, lt_F, le_T, le_F, qn_T, qn_F, and_F, b01_T, b01_F, e_isIn, Int32.toInt_toInt64, am_i_toInt, am_l_toInt, Int.toNat_natCast, Int.reduceToNat, Int.reduceAdd, Int.reduceSub, Int.reduceMul, Int.reduceNeg, Nat.reduceAdd, Nat.reduceMul, Nat.add_zero, Nat.mul_zero, Nat.zero_add, am_zb0, am_zb1, e4, f']
theorem x_runL (hx : st_Rx R) {I : tI} (hT : txX T n I R) (e2 : I 5 2 = am_i n) {a : Nat} (e4 : I 5 4 = am_i a) (ha : a ≤ n) : am_E (d + 1) 74 0 [(0, .ref 5), (1, .int (am_i 97)), (2, .int (am_i 122))] [] (I, J, R, 138) = some (some (.int (am_i (spn lB T n a - a : Nat))), (I, J, R, 138)) := x_run (d := d) (J := J) hx hT e2 (cc := lB) (lo := 97) (hi := 122) e4 (fun _ => lB_t) (by omega) (by omega) ha
theorem x_runD (hx : st_Rx R) {I : tI} (hT : txX T n I R) (e2 : I 5 2 = am_i n) {a : Nat} (e4 : I 5 4 = am_i a) (ha : a ≤ n) : am_E (d + 1) 74 0 [(0, .ref 5), (1, .int (am_i 48)), (2, .int (am_i 57))] [] (I, J, R, 138) = some (some (.int (am_i (spn dB T n a - a : Nat))), (I, J, R, 138)) := x_run (d := d) (J := J) hx hT e2 (cc := dB) (lo := 48) (hi := 57) e4 (fun _ => dB_t) (by omega) (by omega) ha
/-- the letters of a word, packed -/
theorem x_rw27 (hx : st_Rx R) {I0 : tI} {a N : Nat} (hT : txX T n I0 R) (hN : a + N ≤ n) (hL : ∀ k, k < N → lB (T (a + k)) = true) : ∀ (m k : Nat) (I : tI), min 6 N = k + m → (∀ q j, q ≠ 5 → I q j = I0 q j) → I 5 4 = am_i a → I 5 9 = am_i (pk5 (rlS T k a)) → ∃ I', am_E (d + 1) 75 27 [(0, .ref 5), (1, .int (am_i N)), (2, .int (am_i k))] [] (I, J, R, 138) = am_E (d + 1) 75 75 [(0, .ref 5)] [] (I', J, R, 138) ∧ (∀ q j, ¬ (q = 5 ∧ j = 9) → I' q j = I q j) ∧ I' 5 9 = am_i (pk5 (rlS T (min 6 N) a))
  | 0, k, I, hk, hI, e4, e9 => by
    obtain ⟨t1, t2, t3, t4⟩ := hT
    refine ⟨I, ?_, fun _ _ _ => rfl, by rw [e9, hk, Nat.add_zero]⟩
    rw [sg_X9_readWord_27]
    by_cases q : N ≤ k
    · simp (disch := first | assumption | omega) only [rX hx, ly_csx, ly_cax, ly_cf, ly_kd, ly_ln, ↓Bool.cond_decide, cond_true, cond_false, ↓bI_p, ↓bV_p, ↓bL_p, bIJ_s, bVJ_s, bLJ_s, ↓am_let_s, Nat.blt, Nat.ble, Bool.and_true, Bool.true_and, Bool.and_self, Int.cast_ofNat_Int, am_i_add, am_i_sub, am_i_mul, am_ok_i, am_i_cl, n_lt, n_le, n_eq, n_lt0, n_le0, n_0lt, n_0le, n_eq0, ne_eq, ↓reduceIte, not_true_eq_false, not_false_eq_true, and_true, true_and, and_false, false_and, eq_T, eq_F, lt_T, lt_F, le_T, le_F, qn_T, qn_F, and_F, b01_T, b01_F, e_isIn, Int32.toInt_toInt64, am_i_toInt, am_l_toInt, Int.toNat_natCast, Int.reduceToNat, Int.reduceAdd, Int.reduceSub, Int.reduceMul, Int.reduceNeg, Nat.reduceAdd, Nat.reduceMul, Nat.add_zero, Nat.mul_zero, Nat.zero_add, am_zb0, am_zb1]
    · have q6 : 6 ≤ k := by omega
      simp (disch := first | assumption | omega) only [rX hx, ly_csx, ly_cax, ly_cf, ly_kd, ly_ln, ↓Bool.cond_decide, cond_true, cond_false, ↓bI_p, ↓bV_p, ↓bL_p, bIJ_s, bVJ_s, bLJ_s, ↓am_let_s, Nat.blt, Nat.ble, Bool.and_true, Bool.true_and, Bool.and_self, Int.cast_ofNat_Int, am_i_add, am_i_sub, am_i_mul, am_ok_i, am_i_cl, n_lt, n_le, n_eq, n_lt0, n_le0, n_0lt, n_0le, n_eq0, ne_eq, ↓reduceIte, not_true_eq_false, not_false_eq_true, and_true, true_and, and_false, false_and, eq_T, eq_F, lt_T, lt_F, le_T, le_F, qn_T, qn_F, and_F, b01_T, b01_F, e_isIn, Int32.toInt_toInt64, am_i_toInt, am_l_toInt, Int.toNat_natCast, Int.reduceToNat, Int.reduceAdd, Int.reduceSub, Int.reduceMul, Int.reduceNeg, Nat.reduceAdd, Nat.reduceMul, Nat.add_zero, Nat.mul_zero, Nat.zero_add, am_zb0, am_zb1]
  | m + 1, k, I, hk, hI, e4, e9 => by
    obtain ⟨t1, t2, t3, t4⟩ := hT
    have k6 : k < 6 := by omega
    have kN : k < N := by omega
    obtain ⟨u1, u2⟩ := t3 (a + k) (by omega)
    have i4 : I 4 (a + k) = am_i (T (a + k)) := by rw [hI _ _ (by omega)]; exact u2
    have et : ((a : Int) + (k : Int)).toNat = a + k := by omega
    have k2' := lB_t.mp (hL k kN)
    have hx32 : T (a + k) - 96 < 32 := by omega
    have pks := pk5_s (l := rlS T k a) (x := T (a + k) - 96) (m := k) (rlS_l k a) (by omega) hx32
    rw [← rlS_s] at pks
    have ex : (T (a + k) : Int) - 97 + 1 = ((T (a + k) - 96 : Nat) : Int) := by omega
    have e5 : (5 : Int) * (5 - (k : Int)) = ((5 * (5 - k) : Nat) : Int) := by omega
    have nm : am_i (pk5 (rlS T k a) : Nat) ||| (am_i ((T (a + k) - 96 : Nat) : Int) <<< (am_i ((5 * (5 - k) : Nat) : Int) &&& 31)) = am_i (pk5 (rlS T (k + 1) a) : Nat) := by
      rw [s_31 (by omega), s_shl (by omega), s_or, pks]
    obtain ⟨I', p1, p2, p3⟩ := x_rw27 hx (I0 := I0) ⟨t1, t2, t3, t4⟩ hN hL m (k + 1) (am_up I 5 9 (am_i (pk5 (rlS T (k + 1) a) : Nat))) (by omega) (fun q j h => by rw [am_up_o (by omega)]; exact hI q j h) (by rw [am_up_o (by omega)]; exact e4) am_up_e
    refine ⟨I', ?_, fun q j h => by rw [p2 q j h, am_up_o h], p3⟩
    rw [← p1, sg_X9_readWord_27]
    simp (disch := first | assumption | omega) only [rX hx, ly_csx, ly_cax, ly_cf, ly_kd, ly_ln, ↓Bool.cond_decide, cond_true, cond_false, ↓bI_p, ↓bV_p, ↓bL_p, bIJ_s, bVJ_s, bLJ_s, ↓am_let_s, Nat.blt, Nat.ble, Bool.and_true, Bool.true_and, Bool.and_self, Int.cast_ofNat_Int, am_i_add, am_i_sub, am_i_mul, am_ok_i, am_i_cl, n_lt, n_le, n_eq, n_lt0, n_le0, n_0lt, n_0le, n_eq0, ne_eq, ↓reduceIte, not_true_eq_false, not_false_eq_true, and_true, true_and, and_false, false_and, eq_T, eq_F, lt_T, lt_F, le_T, le_F, qn_T, qn_F, and_F, b01_T, b01_F, e_isIn, Int32.toInt_toInt64, am_i_toInt, am_l_toInt, Int.toNat_natCast, Int.reduceToNat, Int.reduceAdd, Int.reduceSub, Int.reduceMul, Int.reduceNeg, Nat.reduceAdd, Nat.reduceMul, Nat.add_zero, Nat.mul_zero, Nat.zero_add, am_zb0, am_zb1, t2, e4, et, i4, e9, ex, e5, nm, am_i_s]
theorem x_rw82 (hx : st_Rx R) {l : List Nat} {k : Nat} {nm : Int32} (hk : k < 1000000) (hlen : l.length = k) (hnm : k ≤ 6 → nm = am_i (pk5 l) ∧ ∀ x ∈ l, 1 ≤ x ∧ x ≤ 26) : ∀ (m i : Nat) (I : tI) (w : Int), i + m = 32 → I 6 = am_K0 6 → I 5 6 = am_i k → I 5 9 = nm → I 5 8 = am_i w → w = (if ∃ j, j < i ∧ l = WL j then wix l else -1) → ∃ I', am_E (d + 1) 75 82 [(0, .ref 5), (2, .int (am_i i))] [] (I, J, R, 138) = some (none, (I', J, R, 138)) ∧ (∀ q j, ¬ (q = 5 ∧ j = 8) → I' q j = I q j) ∧ I' 5 8 = am_i (wix l)
  | 0, i, I, w, hi, h6, e6, e9, e8, hw => by
    have wl : w = wix l := by
      rw [hw]
      by_cases q : ∃ j, j < i ∧ l = WL j
      · rw [if_pos q]
      · rw [if_neg q]
        exact (ixL_n 32 0 (fun j _ j2 e => q ⟨j, by omega, e⟩)).symm
    refine ⟨I, ?_, fun _ _ _ => rfl, by rw [e8, wl]⟩
    rw [sg_X9_readWord_82]
    simp (disch := first | assumption | omega) only [rX hx, ly_csx, ly_cax, ly_cf, ly_kd, ly_ln, ↓Bool.cond_decide, cond_true, cond_false, ↓bI_p, ↓bV_p, ↓bL_p, bIJ_s, bVJ_s, bLJ_s, ↓am_let_s, Nat.blt, Nat.ble, Bool.and_true, Bool.true_and, Bool.and_self, Int.cast_ofNat_Int, am_i_add, am_i_sub, am_i_mul, am_ok_i, am_i_cl, n_lt, n_le, n_eq, n_lt0, n_le0, n_0lt, n_0le, n_eq0, ne_eq, ↓reduceIte, not_true_eq_false, not_false_eq_true, and_true, true_and, and_false, false_and, eq_T, eq_F, lt_T, lt_F, le_T, le_F, qn_T, qn_F, and_F, b01_T, b01_F, e_isIn, Int32.toInt_toInt64, am_i_toInt, am_l_toInt, Int.toNat_natCast, Int.reduceToNat, Int.reduceAdd, Int.reduceSub, Int.reduceMul, Int.reduceNeg, Nat.reduceAdd, Nat.reduceMul, Nat.add_zero, Nat.mul_zero, Nat.zero_add, am_zb0, am_zb1, sg_X9_readWord_121]
  | m + 1, i, I, w, hi, h6, e6, e9, e8, hw => by
    by_cases q : 6 < k
    · have wl : w = wix l := by
        have hn : ∀ j, j < 32 → l ≠ WL j := fun j hj e => by
          have := (WL_b ⟨j, hj⟩).2.1
          have e2 : l.length = (WL j).length := by rw [e]
          simp only at this
          omega
        rw [hw, if_neg (fun ⟨j, j1, j2⟩ => hn j (by omega) j2)]
        exact (ixL_n 32 0 (fun j _ j2 e => hn j (by omega) e)).symm
      refine ⟨I, ?_, fun _ _ _ => rfl, by rw [e8, wl]⟩
      rw [sg_X9_readWord_82]
      simp (disch := first | assumption | omega) only [rX hx, ly_csx, ly_cax, ly_cf, ly_kd, ly_ln, ↓Bool.cond_decide, cond_true, cond_false, ↓bI_p, ↓bV_p, ↓bL_p, bIJ_s, bVJ_s, bLJ_s, ↓am_let_s, Nat.blt, Nat.ble, Bool.and_true, Bool.true_and, Bool.and_self, Int.cast_ofNat_Int, am_i_add, am_i_sub, am_i_mul, am_ok_i, am_i_cl, n_lt, n_le, n_eq, n_lt0, n_le0, n_0lt, n_0le, n_eq0, ne_eq, ↓reduceIte, not_true_eq_false, not_false_eq_true, and_true, true_and, and_false, false_and, eq_T, eq_F, lt_T, lt_F, le_T, le_F, qn_T, qn_F, and_F, b01_T, b01_F, e_isIn, Int32.toInt_toInt64, am_i_toInt, am_l_toInt, Int.toNat_natCast, Int.reduceToNat, Int.reduceAdd, Int.reduceSub, Int.reduceMul, Int.reduceNeg, Nat.reduceAdd, Nat.reduceMul, Nat.add_zero, Nat.mul_zero, Nat.zero_add, am_zb0, am_zb1, e6, sg_X9_readWord_121]
    · obtain ⟨n1, n2⟩ := hnm (by omega)
      have e6i : I 6 i = am_i (pk5 (WL i) : Nat) := by rw [h6]; exact WL_6 ⟨i, by omega⟩
      obtain ⟨b1, b2, b3⟩ := WL_b ⟨i, by omega⟩
      have p1 := pk5_b (l := l) (by omega) (fun x hx => by have := n2 x hx; omega)
      have p2 := pk5_b (l := WL i) b2 (fun x hx => by have := b3 x hx; omega)
      by_cases q2 : l = WL i
      · have wi : wix l = i := (wix_i (by omega)).mpr q2
        obtain ⟨I', g1, g2, g3⟩ := x_rw82 hx hk hlen hnm m (i + 1) (am_up I 5 8 (am_i i)) i (by omega) (by rw [am_up_ap, if_neg (by omega)]; exact h6) (by rw [am_up_o (by omega)]; exact e6) (by rw [am_up_o (by omega)]; exact e9) am_up_e (by rw [if_pos ⟨i, by omega, q2⟩, wi])
        refine ⟨I', ?_, fun q j h => by rw [g2 q j h, am_up_o h], g3⟩
        have e9' : I 5 9 = am_i (pk5 (WL i) : Nat) := by rw [e9, n1, q2]
        rw [← g1, sg_X9_readWord_82]
        simp (disch := first | assumption | omega) only [rX hx, ly_csx, ly_cax, ly_cf, ly_kd, ly_ln, ↓Bool.cond_decide, cond_true, cond_false, ↓bI_p, ↓bV_p, ↓bL_p, bIJ_s, bVJ_s, bLJ_s, ↓am_let_s, Nat.blt, Nat.ble, Bool.and_true, Bool.true_and, Bool.and_self, Int.cast_ofNat_Int, am_i_add, am_i_sub, am_i_mul, am_ok_i, am_i_cl, n_lt, n_le, n_eq, n_lt0, n_le0, n_0lt, n_0le, n_eq0, ne_eq, ↓reduceIte, not_true_eq_false, not_false_eq_true, and_true, true_and, and_false, false_and, eq_T, eq_F, lt_T, lt_F, le_T, le_F, qn_T, qn_F, and_F, b01_T, b01_F, e_isIn, Int32.toInt_toInt64, am_i_toInt, am_l_toInt, Int.toNat_natCast, Int.reduceToNat, Int.reduceAdd, Int.reduceSub, Int.reduceMul, Int.reduceNeg, Nat.reduceAdd, Nat.reduceMul, Nat.add_zero, Nat.mul_zero, Nat.zero_add, am_zb0, am_zb1, e6, e6i, e9', sg_X9_readWord_115, am_i_s]
      · obtain ⟨I', g1, g2, g3⟩ := x_rw82 hx hk hlen hnm m (i + 1) I w (by omega) h6 e6 e9 e8 (by
          rw [hw]
          by_cases c : ∃ j, j < i ∧ l = WL j
          · obtain ⟨j, j1, j2⟩ := c
            rw [if_pos ⟨j, j1, j2⟩, if_pos ⟨j, by omega, j2⟩]
          · rw [if_neg c, if_neg]
            rintro ⟨j, j1, j2⟩
            by_cases cj : j = i
            · rw [cj] at j2; exact q2 j2
            · exact c ⟨j, by omega, j2⟩)
        refine ⟨I', ?_, g2, g3⟩
        have ne : pk5 (WL i) ≠ pk5 l := fun e => q2 (pk5_i (by omega) b2 n2 b3 e.symm)
        have e9' : I 5 9 = am_i (pk5 l : Nat) := by rw [e9, n1]
        rw [← g1, sg_X9_readWord_82]
        simp (disch := first | assumption | omega) only [rX hx, ly_csx, ly_cax, ly_cf, ly_kd, ly_ln, ↓Bool.cond_decide, cond_true, cond_false, ↓bI_p, ↓bV_p, ↓bL_p, bIJ_s, bVJ_s, bLJ_s, ↓am_let_s, Nat.blt, Nat.ble, Bool.and_true, Bool.true_and, Bool.and_self, Int.cast_ofNat_Int, am_i_add, am_i_sub, am_i_mul, am_ok_i, am_i_cl, n_lt, n_le, n_eq, n_lt0, n_le0, n_0lt, n_0le, n_eq0, ne_eq, ↓reduceIte, not_true_eq_false, not_false_eq_true, and_true, true_and, and_false, false_and, eq_T, eq_F, lt_T, lt_F, le_T, le_F, qn_T, qn_F, and_F, b01_T, b01_F, e_isIn, Int32.toInt_toInt64, am_i_toInt, am_l_toInt, Int.toNat_natCast, Int.reduceToNat, Int.reduceAdd, Int.reduceSub, Int.reduceMul, Int.reduceNeg, Nat.reduceAdd, Nat.reduceMul, Nat.add_zero, Nat.mul_zero, Nat.zero_add, am_zb0, am_zb1, e6, e6i, e9', sg_X9_readWord_115, am_i_s]
theorem x_rn27 (hx : st_Rx R) {I0 : tI} {a N : Nat} (hT : txX T n I0 R) (hN : a + N ≤ n) (hL : ∀ k, k < N → dB (T (a + k)) = true) : ∀ (m k : Nat) (I : tI), min 4 N = k + m → (∀ q j, q ≠ 5 → I q j = I0 q j) → I 5 4 = am_i a → I 5 7 = am_i (nvS T a k) → ∃ I', am_E (d + 1) 76 27 [(0, .ref 5), (1, .int (am_i N)), (2, .int (am_i k))] [] (I, J, R, 138) = some (none, (I', J, R, 138)) ∧ (∀ q j, ¬ (q = 5 ∧ j = 7) → I' q j = I q j) ∧ I' 5 7 = am_i (nvS T a (min 4 N))
  | 0, k, I, hk, hI, e4, e7 => by
    obtain ⟨t1, t2, t3, t4⟩ := hT
    refine ⟨I, ?_, fun _ _ _ => rfl, by rw [e7, hk, Nat.add_zero]⟩
    rw [sg_X9_readNumber_27]
    by_cases q : N ≤ k
    · simp (disch := first | assumption | omega) only [rX hx, ly_csx, ly_cax, ly_cf, ly_kd, ly_ln, ↓Bool.cond_decide, cond_true, cond_false, ↓bI_p, ↓bV_p, ↓bL_p, bIJ_s, bVJ_s, bLJ_s, ↓am_let_s, Nat.blt, Nat.ble, Bool.and_true, Bool.true_and, Bool.and_self, Int.cast_ofNat_Int, am_i_add, am_i_sub, am_i_mul, am_ok_i, am_i_cl, n_lt, n_le, n_eq, n_lt0, n_le0, n_0lt, n_0le, n_eq0, ne_eq, ↓reduceIte, not_true_eq_false, not_false_eq_true, and_true, true_and, and_false, false_and, eq_T, eq_F, lt_T, lt_F, le_T, le_F, qn_T, qn_F, and_F, b01_T, b01_F, e_isIn, Int32.toInt_toInt64, am_i_toInt, am_l_toInt, Int.toNat_natCast, Int.reduceToNat, Int.reduceAdd, Int.reduceSub, Int.reduceMul, Int.reduceNeg, Nat.reduceAdd, Nat.reduceMul, Nat.add_zero, Nat.mul_zero, Nat.zero_add, am_zb0, am_zb1, sg_X9_readNumber_69]
    · have q6 : 4 ≤ k := by omega
      simp (disch := first | assumption | omega) only [rX hx, ly_csx, ly_cax, ly_cf, ly_kd, ly_ln, ↓Bool.cond_decide, cond_true, cond_false, ↓bI_p, ↓bV_p, ↓bL_p, bIJ_s, bVJ_s, bLJ_s, ↓am_let_s, Nat.blt, Nat.ble, Bool.and_true, Bool.true_and, Bool.and_self, Int.cast_ofNat_Int, am_i_add, am_i_sub, am_i_mul, am_ok_i, am_i_cl, n_lt, n_le, n_eq, n_lt0, n_le0, n_0lt, n_0le, n_eq0, ne_eq, ↓reduceIte, not_true_eq_false, not_false_eq_true, and_true, true_and, and_false, false_and, eq_T, eq_F, lt_T, lt_F, le_T, le_F, qn_T, qn_F, and_F, b01_T, b01_F, e_isIn, Int32.toInt_toInt64, am_i_toInt, am_l_toInt, Int.toNat_natCast, Int.reduceToNat, Int.reduceAdd, Int.reduceSub, Int.reduceMul, Int.reduceNeg, Nat.reduceAdd, Nat.reduceMul, Nat.add_zero, Nat.mul_zero, Nat.zero_add, am_zb0, am_zb1, sg_X9_readNumber_69]
  | m + 1, k, I, hk, hI, e4, e7 => by
    obtain ⟨t1, t2, t3, t4⟩ := hT
    have k6 : k < 4 := by omega
    have kN : k < N := by omega
    obtain ⟨u1, u2⟩ := t3 (a + k) (by omega)
    have i4 : I 4 (a + k) = am_i (T (a + k)) := by rw [hI _ _ (by omega)]; exact u2
    have et : ((a : Int) + (k : Int)).toNat = a + k := by omega
    have nb : ∀ j, j ≤ k + 1 → nvS T a j < 10 ^ j := by
      intro j
      induction j with
      | zero => intro _; exact Nat.zero_lt_one
      | succ j ih =>
        intro hj
        have h1 := ih (by omega)
        have h3 := dB_t.mp (hL j (by omega))
        show nvS T a j * 10 + (T (a + j) - 48) < 10 ^ (j + 1)
        rw [Nat.pow_succ]
        omega
    have nb0 : nvS T a k < 10000 := Nat.lt_of_lt_of_le (nb k (by omega)) (Nat.pow_le_pow_right (n := 10) (by omega) (show k ≤ 4 by omega))
    have k2' := dB_t.mp (hL k kN)
    have ev : (nvS T a k : Int) * 10 + (T (a + k) : Int) - 48 = ((nvS T a (k + 1) : Nat) : Int) := by
      show _ = ((nvS T a k * 10 + (T (a + k) - 48) : Nat) : Int)
      omega
    obtain ⟨I', p1, p2, p3⟩ := x_rn27 hx (I0 := I0) ⟨t1, t2, t3, t4⟩ hN hL m (k + 1) (am_up I 5 7 (am_i (nvS T a (k + 1) : Nat))) (by omega) (fun q j h => by rw [am_up_o (by omega)]; exact hI q j h) (by rw [am_up_o (by omega)]; exact e4) am_up_e
    refine ⟨I', ?_, fun q j h => by rw [p2 q j h, am_up_o h], p3⟩
    rw [← p1, sg_X9_readNumber_27]
    simp (disch := first | assumption | omega) only [rX hx, ly_csx, ly_cax, ly_cf, ly_kd, ly_ln, ↓Bool.cond_decide, cond_true, cond_false, ↓bI_p, ↓bV_p, ↓bL_p, bIJ_s, bVJ_s, bLJ_s, ↓am_let_s, Nat.blt, Nat.ble, Bool.and_true, Bool.true_and, Bool.and_self, Int.cast_ofNat_Int, am_i_add, am_i_sub, am_i_mul, am_ok_i, am_i_cl, n_lt, n_le, n_eq, n_lt0, n_le0, n_0lt, n_0le, n_eq0, ne_eq, ↓reduceIte, not_true_eq_false, not_false_eq_true, and_true, true_and, and_false, false_and, eq_T, eq_F, lt_T, lt_F, le_T, le_F, qn_T, qn_F, and_F, b01_T, b01_F, e_isIn, Int32.toInt_toInt64, am_i_toInt, am_l_toInt, Int.toNat_natCast, Int.reduceToNat, Int.reduceAdd, Int.reduceSub, Int.reduceMul, Int.reduceNeg, Nat.reduceAdd, Nat.reduceMul, Nat.add_zero, Nat.mul_zero, Nat.zero_add, am_zb0, am_zb1, t2, e4, et, i4, e7, ev, am_i_s]
end SCAN
