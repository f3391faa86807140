/-! ===== the class's answer to a question ===== -/
/-- one boat more: k 26 first, 27 last, 28 often, 29 total, 30 most, 31 least -/
def anT (k : Nat) (r v : Int) (b : Nat) : Int := if k = 26 then (if v = 1 ∧ r = -1 then (b : Int) else r) else if k = 27 then (if v = 1 then (b : Int) else r) else if k = 28 then (if v = 1 then r + 1 else r) else if k = 29 then r + v else if k = 30 then (if b = 0 ∨ r < v then v else r) else (if b = 0 ∨ v < r then v else r)
def anS (k : Nat) (f : Nat → Int) : Nat → Int
  | 0 => if k ≤ 27 then -1 else 0
  | m + 1 => anT k (anS k f m) (f m) m
theorem anS_b {k : Nat} {f : Nat → Int} (hf : ∀ b, -1000000 ≤ f b ∧ f b ≤ 1000000) : ∀ m : Nat, m ≤ 6 → -1000000 * ((m : Int) + 1) ≤ anS k f m ∧ anS k f m ≤ 1000000 * ((m : Int) + 1)
  | 0, _ => by
    unfold anS
    split <;> omega
  | m + 1, hm => by
    have ih := anS_b (k := k) hf m (by omega)
    have := hf m
    show -1000000 * (((m + 1 : Nat) : Int) + 1) ≤ anT k (anS k f m) (f m) m ∧ anT k (anS k f m) (f m) m ≤ 1000000 * (((m + 1 : Nat) : Int) + 1)
    unfold anT
    repeat' split
    all_goals omega
theorem anS_1 {f : Nat → Int} {m : Nat} (h : anS 26 f m ≠ -1) : ∀ j, anS 26 f (m + j) = anS 26 f m
  | 0 => rfl
  | j + 1 => by
    have ih := anS_1 h j
    show anT 26 (anS 26 f (m + j)) (f (m + j)) (m + j) = _
    rw [ih]
    unfold anT
    rw [if_pos rfl, if_neg (fun c => h c.2)]
section XANS
variable {d : Nat} {J : tJ} {R : tR} {c last wd nb h : Nat} {nt wf : Nat → Nat} {fm : Nat → List tok} {s : Nat → bt} {l : List tok} {bb : Bool}
theorem x_gather {k b : Nat} {r v : Int} {M : am_Mem} (hk : 27 ≤ k) (hk2 : k ≤ 31) (hb : b < 6) (hr : -9000000 ≤ r ∧ r ≤ 9000000) (hv : -1000000 ≤ v ∧ v ≤ 1000000) (h1 : k ≤ 28 → v = 1) : am_E (d + 1) 161 0 [(0, .int (am_i k)), (1, .long (am_l r)), (3, .int (am_i v)), (4, .int (am_i b))] [] M = some (some (.long (am_l (anT k r v b))), M) := by
  obtain ⟨r1, r2⟩ := hr
  obtain ⟨v1, v2⟩ := hv
  have e1 : (am_i v).toInt64 = am_l v := i_tol (by omega) (by omega)
  have e2 : (am_i b).toInt64 = am_l b := i_tol (by omega) (by omega)
  have cm : (am_l v < am_l r) = (v < r) := propext (by
    rw [Int64.lt_iff_toInt_lt, am_l_toInt (by omega) (by omega), am_l_toInt (by omega) (by omega)])
  rw [sg_X11_gather_0]
  have k5 : k = 27 ∨ k = 28 ∨ k = 29 ∨ k = 30 ∨ k = 31 := by omega
  rcases k5 with rfl | rfl | rfl | rfl | rfl
  · have : anT 27 r v b = b := by unfold anT; rw [if_neg (by decide), if_pos rfl, if_pos (h1 (by omega))]
    rw [this]
    simp (disch := first | assumption | omega) only [↓Bool.cond_decide, cond_true, cond_false, ↓am_let_s, ↓bI_p, bIJ_s, ↓bV_p, bVJ_s, ↓bL_p, bLJ_s, ly_cf, Bool.and_self, Bool.and_true, am_i_add, am_i_sub, am_i_mul, am_ok_i, am_i_cl, n_lt, n_le, n_eq, n_lt0, n_le0, n_0lt, n_0le, n_eq0, ne_eq, ↓reduceIte, not_true_eq_false, not_false_eq_true, and_true, true_and, and_false, false_and, eq_T, eq_F, lt_T, lt_F, le_T, le_F, qn_T, qn_F, and_F, b01_T, b01_F, e_isIn, Int32.toInt_toInt64, am_i_toInt, am_l_toInt, Int.toNat_natCast, Int.reduceToNat, Int.reduceAdd, Int.reduceSub, Int.reduceMul, Int.reduceNeg, Nat.reduceAdd, Nat.reduceMul, Nat.add_zero, Nat.mul_zero, Nat.zero_add, am_zb0, am_zb1, e2]
  · have : anT 28 r v b = r + 1 := by unfold anT; rw [if_neg (by decide), if_neg (by decide), if_pos rfl, if_pos (h1 (by omega))]
    rw [this]
    simp (disch := first | assumption | omega) only [↓Bool.cond_decide, cond_true, cond_false, ↓am_let_s, ↓bI_p, bIJ_s, ↓bV_p, bVJ_s, ↓bL_p, bLJ_s, ly_cf, Bool.and_self, Bool.and_true, am_i_add, am_i_sub, am_i_mul, am_ok_i, am_i_cl, n_lt, n_le, n_eq, n_lt0, n_le0, n_0lt, n_0le, n_eq0, ne_eq, ↓reduceIte, not_true_eq_false, not_false_eq_true, and_true, true_and, and_false, false_and, eq_T, eq_F, lt_T, lt_F, le_T, le_F, qn_T, qn_F, and_F, b01_T, b01_F, e_isIn, Int32.toInt_toInt64, am_i_toInt, am_l_toInt, Int.toNat_natCast, Int.reduceToNat, Int.reduceAdd, Int.reduceSub, Int.reduceMul, Int.reduceNeg, Nat.reduceAdd, Nat.reduceMul, Nat.add_zero, Nat.mul_zero, Nat.zero_add, am_zb0, am_zb1, am_l_add]
  · have : anT 29 r v b = r + v := rfl
    rw [this]
    simp (disch := first | assumption | omega) only [↓Bool.cond_decide, cond_true, cond_false, ↓am_let_s, ↓bI_p, bIJ_s, ↓bV_p, bVJ_s, ↓bL_p, bLJ_s, ly_cf, Bool.and_self, Bool.and_true, am_i_add, am_i_sub, am_i_mul, am_ok_i, am_i_cl, n_lt, n_le, n_eq, n_lt0, n_le0, n_0lt, n_0le, n_eq0, ne_eq, ↓reduceIte, not_true_eq_false, not_false_eq_true, and_true, true_and, and_false, false_and, eq_T, eq_F, lt_T, lt_F, le_T, le_F, qn_T, qn_F, and_F, b01_T, b01_F, e_isIn, Int32.toInt_toInt64, am_i_toInt, am_l_toInt, Int.toNat_natCast, Int.reduceToNat, Int.reduceAdd, Int.reduceSub, Int.reduceMul, Int.reduceNeg, Nat.reduceAdd, Nat.reduceMul, Nat.add_zero, Nat.mul_zero, Nat.zero_add, am_zb0, am_zb1, e1, am_l_add]
  · by_cases q : b = 0
    · subst q
      have : anT 30 r v 0 = v := by unfold anT; rw [if_neg (by decide), if_neg (by decide), if_neg (by decide), if_neg (by decide), if_pos rfl, if_pos (Or.inl rfl)]
      rw [this]
      simp (disch := first | assumption | omega) only [↓Bool.cond_decide, cond_true, cond_false, ↓am_let_s, ↓bI_p, bIJ_s, ↓bV_p, bVJ_s, ↓bL_p, bLJ_s, ly_cf, Bool.and_self, Bool.and_true, am_i_add, am_i_sub, am_i_mul, am_ok_i, am_i_cl, n_lt, n_le, n_eq, n_lt0, n_le0, n_0lt, n_0le, n_eq0, ne_eq, ↓reduceIte, not_true_eq_false, not_false_eq_true, and_true, true_and, and_false, false_and, eq_T, eq_F, lt_T, lt_F, le_T, le_F, qn_T, qn_F, and_F, b01_T, b01_F, e_isIn, Int32.toInt_toInt64, am_i_toInt, am_l_toInt, Int.toNat_natCast, Int.reduceToNat, Int.reduceAdd, Int.reduceSub, Int.reduceMul, Int.reduceNeg, Nat.reduceAdd, Nat.reduceMul, Nat.add_zero, Nat.mul_zero, Nat.zero_add, am_zb0, am_zb1, e1]
    · simp (disch := first | assumption | omega) only [↓Bool.cond_decide, cond_true, cond_false, ↓am_let_s, ↓bI_p, bIJ_s, ↓bV_p, bVJ_s, ↓bL_p, bLJ_s, ly_cf, Bool.and_self, Bool.and_true, am_i_add, am_i_sub, am_i_mul, am_ok_i, am_i_cl, n_lt, n_le, n_eq, n_lt0, n_le0, n_0lt, n_0le, n_eq0, ne_eq, ↓reduceIte, not_true_eq_false, not_false_eq_true, and_true, true_and, and_false, false_and, eq_T, eq_F, lt_T, lt_F, le_T, le_F, qn_T, qn_F, and_F, b01_T, b01_F, e_isIn, Int32.toInt_toInt64, am_i_toInt, am_l_toInt, Int.toNat_natCast, Int.reduceToNat, Int.reduceAdd, Int.reduceSub, Int.reduceMul, Int.reduceNeg, Nat.reduceAdd, Nat.reduceMul, Nat.add_zero, Nat.mul_zero, Nat.zero_add, am_zb0, am_zb1, e1, cm]
      by_cases q2 : v < r
      · have : anT 30 r v b = r := by unfold anT; rw [if_neg (by decide), if_neg (by decide), if_neg (by decide), if_neg (by decide), if_pos rfl, if_neg (by omega)]
        rw [this, if_pos q2]
      · rw [if_neg q2]
        have : anT 30 r v b = v := by
          unfold anT; rw [if_neg (by decide), if_neg (by decide), if_neg (by decide), if_neg (by decide), if_pos rfl]
          by_cases q3 : r < v
          · rw [if_pos (Or.inr q3)]
          · rw [if_neg (by omega)]; omega
        rw [this]
  · by_cases q : b = 0
    · subst q
      have : anT 31 r v 0 = v := by unfold anT; rw [if_neg (by decide), if_neg (by decide), if_neg (by decide), if_neg (by decide), if_neg (by decide), if_pos (Or.inl rfl)]
      rw [this]
      simp (disch := first | assumption | omega) only [↓Bool.cond_decide, cond_true, cond_false, ↓am_let_s, ↓bI_p, bIJ_s, ↓bV_p, bVJ_s, ↓bL_p, bLJ_s, ly_cf, Bool.and_self, Bool.and_true, am_i_add, am_i_sub, am_i_mul, am_ok_i, am_i_cl, n_lt, n_le, n_eq, n_lt0, n_le0, n_0lt, n_0le, n_eq0, ne_eq, ↓reduceIte, not_true_eq_false, not_false_eq_true, and_true, true_and, and_false, false_and, eq_T, eq_F, lt_T, lt_F, le_T, le_F, qn_T, qn_F, and_F, b01_T, b01_F, e_isIn, Int32.toInt_toInt64, am_i_toInt, am_l_toInt, Int.toNat_natCast, Int.reduceToNat, Int.reduceAdd, Int.reduceSub, Int.reduceMul, Int.reduceNeg, Nat.reduceAdd, Nat.reduceMul, Nat.add_zero, Nat.mul_zero, Nat.zero_add, am_zb0, am_zb1, e1]
    · simp (disch := first | assumption | omega) only [↓Bool.cond_decide, cond_true, cond_false, ↓am_let_s, ↓bI_p, bIJ_s, ↓bV_p, bVJ_s, ↓bL_p, bLJ_s, ly_cf, Bool.and_self, Bool.and_true, am_i_add, am_i_sub, am_i_mul, am_ok_i, am_i_cl, n_lt, n_le, n_eq, n_lt0, n_le0, n_0lt, n_0le, n_eq0, ne_eq, ↓reduceIte, not_true_eq_false, not_false_eq_true, and_true, true_and, and_false, false_and, eq_T, eq_F, lt_T, lt_F, le_T, le_F, qn_T, qn_F, and_F, b01_T, b01_F, e_isIn, Int32.toInt_toInt64, am_i_toInt, am_l_toInt, Int.toNat_natCast, Int.reduceToNat, Int.reduceAdd, Int.reduceSub, Int.reduceMul, Int.reduceNeg, Nat.reduceAdd, Nat.reduceMul, Nat.add_zero, Nat.mul_zero, Nat.zero_add, am_zb0, am_zb1, e1, cm]
      by_cases q2 : v < r
      · have : anT 31 r v b = v := by unfold anT; rw [if_neg (by decide), if_neg (by decide), if_neg (by decide), if_neg (by decide), if_neg (by decide), if_pos (Or.inr q2)]
        rw [this, if_pos q2]
      · rw [if_neg q2]
        have : anT 31 r v b = r := by unfold anT; rw [if_neg (by decide), if_neg (by decide), if_neg (by decide), if_neg (by decide), if_neg (by decide), if_neg (by omega)]
        rw [this]
/-- what the class's answer looks at -/
def axX (c last wd nb h : Nat) (nt wf : Nat → Nat) (fm : Nat → List tok) (s : Nat → bt) (l : List tok) (I : tI) : Prop := cxX c last wd wf fm I ∧ I c 1 = am_i nb ∧ nb ≤ 6 ∧ (∀ b, b < nb → nt b ≤ 6 ∧ I (c + 4) b = am_i (nt b)) ∧ h ≤ 999 ∧ I 31 66 = am_i h ∧ (∀ b, b < nb → bOK last (nt b) (s b) ∧ bX (I 31) (11 * b) (nt b) (s b)) ∧ qfX l I
theorem axX_c {I I' : tI} (hc : c = 10 ∨ c = 20) (hA : axX c last wd nb h nt wf fm s l I) (e : ∀ q k, ¬ (35 ≤ q ∧ q ≤ 41) → I' q k = I q k) : axX c last wd nb h nt wf fm s l I' := by
  obtain ⟨a1, a2, a3, a4, a5, a6, a7, a8⟩ := hA
  have e31 : I' 31 = I 31 := funext fun k => e 31 k (by omega)
  exact ⟨cxX_c hc (fun q k x y => e q k (by omega)) a1, by rw [e _ _ (by omega)]; exact a2, a3, fun b hb => ⟨(a4 b hb).1, by rw [e _ _ (by omega)]; exact (a4 b hb).2⟩, a5, by rw [e31]; exact a6, fun b hb => by rw [e31]; exact a7 b hb, qfX_c a8 (fun q k x => e q k (by omega))⟩
/-- its value for a boat, purely -/
def vlQ (wd h : Nat) (nt wf : Nat → Nat) (fm : Nat → List tok) (s : Nat → bt) (l : List tok) (nb b : Nat) : Int := if b < nb then vl (enQ (nt b) b h wd (s b)) (e1Q (nt b) wd wf fm (s b)) l else 0
theorem x_a47 (hc : c = 10 ∨ c = 20) (hOK : tokOK [] l = some [bb]) (hW : ∀ t ∈ l, tokW true false t) {k : Nat} (hk : 26 ≤ k) (hk2 : k ≤ 31) (hbb : k ≤ 28 → bb = true) {I0 : tI} {R0 : tR} (h40 : R0 3 4 = c) (hx0 : st_Rx R0) (hA0 : axX c last wd nb h nt wf fm s l I0) : ∀ (m i : Nat) (I : tI) (R : tR), i + m = nb → (k = 26 → anS 26 (vlQ wd h nt wf fm s l nb) i = -1) → (∀ q j, ¬ (35 ≤ q ∧ q ≤ 41) → I q j = I0 q j) → rR R0 R → ∃ I' R', am_E (d + 7) 160 47 [(0, .ref 3), (1, .int (am_i k)), (2, .int (am_i (if k ≤ 28 then 1 else 0))), (3, .long (am_l (anS k (vlQ wd h nt wf fm s l nb) i))), (5, .int (am_i i))] [] (I, J, R, 138) = some (some (.long (am_l (anS k (vlQ wd h nt wf fm s l nb) nb))), (I', J, R', 138)) ∧ (∀ q j, ¬ (35 ≤ q ∧ q ≤ 41) → I' q j = I0 q j) ∧ rR R0 R'
  | 0, i, I, R, hi, h26, hf, hR => by
    obtain rfl : i = nb := by omega
    have hx := rR_x hR hx0
    have h4 : R 3 4 = c := by rw [hR.1 _ _ (by omega)]; exact h40
    have hA := axX_c hc hA0 hf
    have a2 := hA.2.1
    have n6 := hA.2.2.1
    refine ⟨I, R, ?_, hf, hR⟩
    rw [sg_X11_answer_47]
    simp (disch := first | assumption | omega) only [rX hx, ly_csx, ly_cax, ly_cf, ly_kd, ly_ln, ↓Bool.cond_decide, cond_true, cond_false, ↓bI_p, ↓bV_p, ↓bL_p, bIJ_s, bVJ_s, bLJ_s, ↓am_let_s, Nat.blt, Nat.ble, Bool.and_true, Bool.true_and, Bool.and_self, Int.cast_ofNat_Int, am_i_add, am_i_sub, am_i_mul, am_ok_i, am_i_cl, n_lt, n_le, n_eq, n_lt0, n_le0, n_0lt, n_0le, n_eq0, ne_eq, ↓reduceIte, not_true_eq_false, not_false_eq_true, and_true, true_and, and_false, false_and, eq_T, eq_F, lt_T, lt_F, le_T, le_F, qn_T, qn_F, and_F, b01_T, b01_F, e_isIn, Int32.toInt_toInt64, am_i_toInt, am_l_toInt, Int.toNat_natCast, Int.reduceToNat, Int.reduceAdd, Int.reduceSub, Int.reduceMul, Int.reduceNeg, Nat.reduceAdd, Nat.reduceMul, Nat.add_zero, Nat.mul_zero, Nat.zero_add, am_zb0, am_zb1, h4, rC hx hc, a2]
  | m + 1, i, I, R, hi, h26, hf, hR => by
    have hx := rR_x hR hx0
    have h4 : R 3 4 = c := by rw [hR.1 _ _ (by omega)]; exact h40
    have hA := axX_c hc hA0 hf
    obtain ⟨a1, a2, n6, a4, a5, a6, a7, a8⟩ := hA
    have hi' : i < nb := by omega
    obtain ⟨n6', n1⟩ := a4 i hi'
    obtain ⟨hO, hB⟩ := a7 i hi'
    have hrr : rR R R := ⟨fun _ _ _ => rfl, hR.2⟩
    obtain ⟨I1, v1, v2, v3⟩ := x_value (d := d) (J := J) (b := i) (bb := bb) hx h4 hc hrr a1 hO n6' (by omega) n1 hB a6 a5 a8 hOK hW
    have ev : vl (enQ (nt i) i h wd (s i)) (e1Q (nt i) wd wf fm (s i)) l = vlQ wd h nt wf fm s l nb i := by unfold vlQ; rw [if_pos hi']
    rw [ev] at v1 v2
    have o1 : ∀ q j, ¬ (35 ≤ q ∧ q ≤ 41) → I1 q j = I0 q j := fun q j e => by rw [v3 q j (hS_f.mpr (by omega))]; exact hf q j e
    have hR1 : rR R0 (am_up R 35 1 c) := rR_u hR hc (Or.inl rfl)
    have ab := anS_b (k := k) (f := vlQ wd h nt wf fm s l nb) (fun b => by
      unfold vlQ
      split
      · next q =>
        obtain ⟨n6'', -⟩ := a4 b q
        obtain ⟨hO', hB'⟩ := a7 b q
        obtain ⟨_, -, w2, -⟩ := x_value (d := d) (J := J) (b := b) (bb := bb) hx h4 hc hrr a1 hO' n6'' (by omega) (a4 b q).2 hB' a6 a5 a8 hOK hW
        exact ⟨w2.1, w2.2.1⟩
      · omega) i (by omega)
    have go : (k = 26 → anS 26 (vlQ wd h nt wf fm s l nb) (i + 1) = -1) → ∃ I' R', am_E (d + 7) 160 99 [(0, .ref 3), (1, .int (am_i k)), (2, .int (am_i (if k ≤ 28 then 1 else 0))), (3, .long (am_l (anS k (vlQ wd h nt wf fm s l nb) (i + 1)))), (5, .int (am_i i))] [] (I1, J, am_up R 35 1 c, 138) = some (some (.long (am_l (anS k (vlQ wd h nt wf fm s l nb) nb))), (I', J, R', 138)) ∧ (∀ q j, ¬ (35 ≤ q ∧ q ≤ 41) → I' q j = I0 q j) ∧ rR R0 R' := fun h26' => by
      obtain ⟨I', R', g1, g2, g3⟩ := x_a47 hc hOK hW hk hk2 hbb h40 hx0 hA0 m (i + 1) I1 (am_up R 35 1 c) (by omega) h26' o1 hR1
      refine ⟨I', R', ?_, g2, g3⟩
      rw [← g1, sg_X11_answer_99]
      simp (disch := first | assumption | omega) only [am_i_s, am_i_add, ↓am_let_s]
    have eT : anS k (vlQ wd h nt wf fm s l nb) (i + 1) = anT k (anS k (vlQ wd h nt wf fm s l nb) i) (vlQ wd h nt wf fm s l nb i) i := rfl
    generalize hv : vlQ wd h nt wf fm s l nb i = v at *
    generalize hr : anS k (vlQ wd h nt wf fm s l nb) i = r at *
    have w1 := v2.1
    have w2 := v2.2.1
    by_cases k28 : k ≤ 28
    · have v01 := v2.2.2 (hbb k28)
      rw [if_pos k28] at go ⊢
      by_cases v0 : v = 0
      · have eR : anT k r v i = r := by
          rw [v0]
          unfold anT
          have : k = 26 ∨ k = 27 ∨ k = 28 := by omega
          rcases this with rfl | rfl | rfl
          · rw [if_pos rfl, if_neg (by omega)]
          · rw [if_neg (by decide), if_pos rfl, if_neg (by omega)]
          · rw [if_neg (by decide), if_neg (by decide), if_pos rfl, if_neg (by omega)]
        rw [eT, eR] at go
        obtain ⟨I', R', g1, g2, g3⟩ := go (fun e => by
          subst e
          rw [eT, eR, ← hr]
          exact h26 rfl)
        refine ⟨I', R', ?_, g2, g3⟩
        rw [← g1, sg_X11_answer_47]
        have v1' : am_E (d + 6) 162 0 [(0, .ref 3), (1, .int (am_i i))] [] (I, J, R, 138) = some (some (.int (am_i 0)), (I1, J, am_up R 35 1 c, 138)) := by rw [v1, v0]
        simp (disch := first | assumption | omega) only [rX hx, ly_csx, ly_cax, ly_cf, ly_kd, ly_ln, ↓Bool.cond_decide, cond_true, cond_false, ↓bI_p, ↓bV_p, ↓bL_p, bIJ_s, bVJ_s, bLJ_s, ↓am_let_s, Nat.blt, Nat.ble, Bool.and_true, Bool.true_and, Bool.and_self, Int.cast_ofNat_Int, am_i_add, am_i_sub, am_i_mul, am_ok_i, am_i_cl, n_lt, n_le, n_eq, n_lt0, n_le0, n_0lt, n_0le, n_eq0, ne_eq, ↓reduceIte, not_true_eq_false, not_false_eq_true, and_true, true_and, and_false, false_and, eq_T, eq_F, lt_T, lt_F, le_T, le_F, qn_T, qn_F, and_F, b01_T, b01_F, e_isIn, Int32.toInt_toInt64, am_i_toInt, am_l_toInt, Int.toNat_natCast, Int.reduceToNat, Int.reduceAdd, Int.reduceSub, Int.reduceMul, Int.reduceNeg, Nat.reduceAdd, Nat.reduceMul, Nat.add_zero, Nat.mul_zero, Nat.zero_add, am_zb0, am_zb1, h4, rC hx hc, a2, v1']
      · have v0' : v = 1 := by omega
        have v1' : am_E (d + 6) 162 0 [(0, .ref 3), (1, .int (am_i i))] [] (I, J, R, 138) = some (some (.int (am_i 1)), (I1, J, am_up R 35 1 c, 138)) := by rw [v1, v0']
        by_cases q26 : k = 26
        · subst q26
          have r1 : r = -1 := by rw [← hr]; exact h26 rfl
          have eR : anS 26 (vlQ wd h nt wf fm s l nb) (i + 1) = i := by
            rw [eT]
            unfold anT
            rw [if_pos rfl, if_pos ⟨v0', r1⟩]
          have eF := anS_1 (f := vlQ wd h nt wf fm s l nb) (m := i + 1) (by rw [eR]; omega) m
          rw [show i + 1 + m = nb by omega, eR] at eF
          refine ⟨I1, am_up R 35 1 c, ?_, o1, hR1⟩
          have e2 : (am_i i).toInt64 = am_l i := i_tol (by omega) (by omega)
          rw [eF, sg_X11_answer_47]
          simp (disch := first | assumption | omega) only [rX hx, ly_csx, ly_cax, ly_cf, ly_kd, ly_ln, ↓Bool.cond_decide, cond_true, cond_false, ↓bI_p, ↓bV_p, ↓bL_p, bIJ_s, bVJ_s, bLJ_s, ↓am_let_s, Nat.blt, Nat.ble, Bool.and_true, Bool.true_and, Bool.and_self, Int.cast_ofNat_Int, am_i_add, am_i_sub, am_i_mul, am_ok_i, am_i_cl, n_lt, n_le, n_eq, n_lt0, n_le0, n_0lt, n_0le, n_eq0, ne_eq, ↓reduceIte, not_true_eq_false, not_false_eq_true, and_true, true_and, and_false, false_and, eq_T, eq_F, lt_T, lt_F, le_T, le_F, qn_T, qn_F, and_F, b01_T, b01_F, e_isIn, Int32.toInt_toInt64, am_i_toInt, am_l_toInt, Int.toNat_natCast, Int.reduceToNat, Int.reduceAdd, Int.reduceSub, Int.reduceMul, Int.reduceNeg, Nat.reduceAdd, Nat.reduceMul, Nat.add_zero, Nat.mul_zero, Nat.zero_add, am_zb0, am_zb1, h4, rC hx hc, a2, v1', sg_X11_answer_79, e2]
        · obtain ⟨I', R', g1, g2, g3⟩ := go (fun e => absurd e q26)
          refine ⟨I', R', ?_, g2, g3⟩
          have ga := fun d => x_gather (d := d) (M := (I1, J, am_up R 35 1 c, 138)) (k := k) (b := i) (r := r) (v := v) (by omega) hk2 (by omega) (by omega) (by omega) (fun _ => v0')
          rw [v0'] at ga
          have ga' : ∀ d, am_E (d + 1) 161 0 [(0, .int (am_i k)), (1, .long (am_l r)), (3, .int (am_i 1)), (4, .int (am_i i))] [] (I1, J, am_up R 35 1 c, 138) = some (some (.long (am_l (anT k r 1 i))), (I1, J, am_up R 35 1 c, 138)) := ga
          rw [← g1, eT, v0', sg_X11_answer_47]
          simp (disch := first | assumption | omega) only [rX hx, ly_csx, ly_cax, ly_cf, ly_kd, ly_ln, ↓Bool.cond_decide, cond_true, cond_false, ↓bI_p, ↓bV_p, ↓bL_p, bIJ_s, bVJ_s, bLJ_s, ↓am_let_s, Nat.blt, Nat.ble, Bool.and_true, Bool.true_and, Bool.and_self, Int.cast_ofNat_Int, am_i_add, am_i_sub, am_i_mul, am_ok_i, am_i_cl, n_lt, n_le, n_eq, n_lt0, n_le0, n_0lt, n_0le, n_eq0, ne_eq, ↓reduceIte, not_true_eq_false, not_false_eq_true, and_true, true_and, and_false, false_and, eq_T, eq_F, lt_T, lt_F, le_T, le_F, qn_T, qn_F, and_F, b01_T, b01_F, e_isIn, Int32.toInt_toInt64, am_i_toInt, am_l_toInt, Int.toNat_natCast, Int.reduceToNat, Int.reduceAdd, Int.reduceSub, Int.reduceMul, Int.reduceNeg, Nat.reduceAdd, Nat.reduceMul, Nat.add_zero, Nat.mul_zero, Nat.zero_add, am_zb0, am_zb1, h4, rC hx hc, a2, v1', sg_X11_answer_79, ga']
    · rw [if_neg k28] at go ⊢
      obtain ⟨I', R', g1, g2, g3⟩ := go (fun e => by omega)
      refine ⟨I', R', ?_, g2, g3⟩
      have ga := fun d => x_gather (d := d) (M := (I1, J, am_up R 35 1 c, 138)) (k := k) (b := i) (r := r) (v := v) (by omega) hk2 (by omega) (by omega) (by omega) (fun e => by omega)
      rw [← g1, eT, sg_X11_answer_47]
      simp (disch := first | assumption | omega) only [rX hx, ly_csx, ly_cax, ly_cf, ly_kd, ly_ln, ↓Bool.cond_decide, cond_true, cond_false, ↓bI_p, ↓bV_p, ↓bL_p, bIJ_s, bVJ_s, bLJ_s, ↓am_let_s, Nat.blt, Nat.ble, Bool.and_true, Bool.true_and, Bool.and_self, Int.cast_ofNat_Int, am_i_add, am_i_sub, am_i_mul, am_ok_i, am_i_cl, n_lt, n_le, n_eq, n_lt0, n_le0, n_0lt, n_0le, n_eq0, ne_eq, ↓reduceIte, not_true_eq_false, not_false_eq_true, and_true, true_and, and_false, false_and, eq_T, eq_F, lt_T, lt_F, le_T, le_F, qn_T, qn_F, and_F, b01_T, b01_F, e_isIn, Int32.toInt_toInt64, am_i_toInt, am_l_toInt, Int.toNat_natCast, Int.reduceToNat, Int.reduceAdd, Int.reduceSub, Int.reduceMul, Int.reduceNeg, Nat.reduceAdd, Nat.reduceMul, Nat.add_zero, Nat.mul_zero, Nat.zero_add, am_zb0, am_zb1, h4, rC hx hc, a2, v1, sg_X11_answer_79, ga]
theorem x_answer (hc : c = 10 ∨ c = 20) (hOK : tokOK [] l = some [bb]) (hW : ∀ t ∈ l, tokW true false t) {k : Nat} (hk : 26 ≤ k) (hk2 : k ≤ 31) (hbb : k ≤ 28 → bb = true) {I : tI} (h4 : R 3 4 = c) (hx : st_Rx R) (hr : rR R R) (hA : axX c last wd nb h nt wf fm s l I) : ∃ I' R', am_E (d + 7) 160 0 [(0, .ref 3), (1, .int (am_i k))] [] (I, J, R, 138) = some (some (.long (am_l (anS k (vlQ wd h nt wf fm s l nb) nb))), (I', J, R', 138)) ∧ (∀ q j, ¬ (35 ≤ q ∧ q ≤ 41) → I' q j = I q j) ∧ rR R R' := by
  obtain ⟨I', R', g1, g2, g3⟩ := x_a47 (d := d) (J := J) (bb := bb) hc hOK hW hk hk2 hbb h4 hx hA nb 0 I R (by omega) (fun _ => rfl) (fun _ _ _ => rfl) hr
  refine ⟨I', R', ?_, g2, g3⟩
  rw [← g1, sg_X11_answer_0]
  have k6 : k = 26 ∨ k = 27 ∨ k = 28 ∨ k = 29 ∨ k = 30 ∨ k = 31 := by omega
  rcases k6 with rfl | rfl | rfl | rfl | rfl | rfl
  · simp (disch := first | assumption | omega) only [am_i_add, am_i_sub, am_i_mul, am_ok_i, am_i_cl, n_lt, n_le, n_eq, n_lt0, n_le0, n_0lt, n_0le, n_eq0, ne_eq, ↓reduceIte, not_true_eq_false, not_false_eq_true, and_true, true_and, and_false, false_and, eq_T, eq_F, lt_T, lt_F, le_T, le_F, qn_T, qn_F, and_F, b01_T, b01_F, e_isIn, Int32.toInt_toInt64, am_i_toInt, am_l_toInt, Int.toNat_natCast, Int.reduceToNat, Int.reduceAdd, Int.reduceSub, Int.reduceMul, Int.reduceNeg, Nat.reduceAdd, Nat.reduceMul, Nat.add_zero, Nat.mul_zero, Nat.zero_add, am_zb0, am_zb1, ↓Bool.cond_decide, cond_true, cond_false, sg_X11_answer_18, sg_X11_answer_36]
    rfl
  · simp (disch := first | assumption | omega) only [am_i_add, am_i_sub, am_i_mul, am_ok_i, am_i_cl, n_lt, n_le, n_eq, n_lt0, n_le0, n_0lt, n_0le, n_eq0, ne_eq, ↓reduceIte, not_true_eq_false, not_false_eq_true, and_true, true_and, and_false, false_and, eq_T, eq_F, lt_T, lt_F, le_T, le_F, qn_T, qn_F, and_F, b01_T, b01_F, e_isIn, Int32.toInt_toInt64, am_i_toInt, am_l_toInt, Int.toNat_natCast, Int.reduceToNat, Int.reduceAdd, Int.reduceSub, Int.reduceMul, Int.reduceNeg, Nat.reduceAdd, Nat.reduceMul, Nat.add_zero, Nat.mul_zero, Nat.zero_add, am_zb0, am_zb1, ↓Bool.cond_decide, cond_true, cond_false, sg_X11_answer_18, sg_X11_answer_36]
    rfl
  · simp (disch := first | assumption | omega) only [am_i_add, am_i_sub, am_i_mul, am_ok_i, am_i_cl, n_lt, n_le, n_eq, n_lt0, n_le0, n_0lt, n_0le, n_eq0, ne_eq, ↓reduceIte, not_true_eq_false, not_false_eq_true, and_true, true_and, and_false, false_and, eq_T, eq_F, lt_T, lt_F, le_T, le_F, qn_T, qn_F, and_F, b01_T, b01_F, e_isIn, Int32.toInt_toInt64, am_i_toInt, am_l_toInt, Int.toNat_natCast, Int.reduceToNat, Int.reduceAdd, Int.reduceSub, Int.reduceMul, Int.reduceNeg, Nat.reduceAdd, Nat.reduceMul, Nat.add_zero, Nat.mul_zero, Nat.zero_add, am_zb0, am_zb1, ↓Bool.cond_decide, cond_true, cond_false, sg_X11_answer_18, sg_X11_answer_36]
    rfl
  · simp (disch := first | assumption | omega) only [am_i_add, am_i_sub, am_i_mul, am_ok_i, am_i_cl, n_lt, n_le, n_eq, n_lt0, n_le0, n_0lt, n_0le, n_eq0, ne_eq, ↓reduceIte, not_true_eq_false, not_false_eq_true, and_true, true_and, and_false, false_and, eq_T, eq_F, lt_T, lt_F, le_T, le_F, qn_T, qn_F, and_F, b01_T, b01_F, e_isIn, Int32.toInt_toInt64, am_i_toInt, am_l_toInt, Int.toNat_natCast, Int.reduceToNat, Int.reduceAdd, Int.reduceSub, Int.reduceMul, Int.reduceNeg, Nat.reduceAdd, Nat.reduceMul, Nat.add_zero, Nat.mul_zero, Nat.zero_add, am_zb0, am_zb1, ↓Bool.cond_decide, cond_true, cond_false, sg_X11_answer_18, sg_X11_answer_36]
    rfl
  · simp (disch := first | assumption | omega) only [am_i_add, am_i_sub, am_i_mul, am_ok_i, am_i_cl, n_lt, n_le, n_eq, n_lt0, n_le0, n_0lt, n_0le, n_eq0, ne_eq, ↓reduceIte, not_true_eq_false, not_false_eq_true, and_true, true_and, and_false, false_and, eq_T, eq_F, lt_T, lt_F, le_T, le_F, qn_T, qn_F, and_F, b01_T, b01_F, e_isIn, Int32.toInt_toInt64, am_i_toInt, am_l_toInt, Int.toNat_natCast, Int.reduceToNat, Int.reduceAdd, Int.reduceSub, Int.reduceMul, Int.reduceNeg, Nat.reduceAdd, Nat.reduceMul, Nat.add_zero, Nat.mul_zero, Nat.zero_add, am_zb0, am_zb1, ↓Bool.cond_decide, cond_true, cond_false, sg_X11_answer_18, sg_X11_answer_36]
    rfl
  · simp (disch := first | assumption | omega) only [am_i_add, am_i_sub, am_i_mul, am_ok_i, am_i_cl, n_lt, n_le, n_eq, n_lt0, n_le0, n_0lt, n_0le, n_eq0, ne_eq, ↓reduceIte, not_true_eq_false, not_false_eq_true, and_true, true_and, and_false, false_and, eq_T, eq_F, lt_T, lt_F, le_T, le_F, qn_T, qn_F, and_F, b01_T, b01_F, e_isIn, Int32.toInt_toInt64, am_i_toInt, am_l_toInt, Int.toNat_natCast, Int.reduceToNat, Int.reduceAdd, Int.reduceSub, Int.reduceMul, Int.reduceNeg, Nat.reduceAdd, Nat.reduceMul, Nat.add_zero, Nat.mul_zero, Nat.zero_add, am_zb0, am_zb1, ↓Bool.cond_decide, cond_true, cond_false, sg_X11_answer_18, sg_X11_answer_36]
    rfl
end XANS
