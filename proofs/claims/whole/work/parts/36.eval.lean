/-! ===== what a formula tells ===== -/
def cutZ (v : Int) : Int := if 1000000 < v then 1000000 else if v < -1000000 then -1000000 else v
def op2 (s : Nat) (a b : Int) : Int :=
  if s = 43 then cutZ (a + b) else if s = 45 then cutZ (a - b) else if s = 42 then cutZ (a * b)
  else if s = 47 then (if b = 0 then 0 else a.fdiv b)
  else if s = 60 then (if a < b then 1 else 0) else if s = 62 then (if b < a then 1 else 0) else if s = 61 then (if a = b then 1 else 0)
  else if s = 24 ∨ s = 21 then (if b < a then b else a) else (if a < b then b else a)
def evT (en : Nat → Int) (e1 : Nat → Int → Int) (vs : List Int) (t : tok) : List Int := match t.1, vs with
  | 0, vs => (t.2 : Int) :: vs
  | 1, vs => en t.2 :: vs
  | 2, v :: r => (1 - v) :: r
  | 3, b :: a :: r => op2 t.2 a b :: r
  | 4, vs => 1 :: vs
  | 5, v :: r => e1 t.2 v :: r
  | _, vs => vs
def ev (en : Nat → Int) (e1 : Nat → Int → Int) (vs : List Int) (p : List tok) : List Int := p.foldl (evT en e1) vs
def vl (en : Nat → Int) (e1 : Nat → Int → Int) (p : List tok) : Int := (ev en e1 [] p).headD 0
def vOK (b : Bool) (v : Int) : Prop := -1000000 ≤ v ∧ v ≤ 1000000 ∧ (b = true → v = 0 ∨ v = 1)
def stT : List Bool → List Int → Prop
  | [], [] => True
  | b :: bs, v :: vs => vOK b v ∧ stT bs vs
  | _, _ => False
theorem stT_len : ∀ {bs vs}, stT bs vs → bs.length = vs.length
  | [], [], _ => rfl
  | _ :: _, _ :: _, h => congrArg (· + 1) (stT_len h.2)
  | [], _ :: _, h => h.elim
  | _ :: _, [], h => h.elim
theorem stT_1 {b : Bool} {bs : List Bool} {vs : List Int} (h : stT (b :: bs) vs) : ∃ v r, vs = v :: r ∧ vOK b v ∧ stT bs r := by
  cases vs with
  | nil => exact h.elim
  | cons v r => exact ⟨v, r, rfl, h.1, h.2⟩
theorem stT_2 {b a : Bool} {bs : List Bool} {vs : List Int} (h : stT (b :: a :: bs) vs) : ∃ v w r, vs = v :: w :: r ∧ vOK b v ∧ vOK a w ∧ stT bs r := by
  obtain ⟨v, r, rfl, h1, h2⟩ := stT_1 h
  obtain ⟨w, r', rfl, h3, h4⟩ := stT_1 h2
  exact ⟨v, w, r', rfl, h1, h3, h4⟩
/-- the words that may tell a number -/
def wdOK (q sw : Bool) (w : Nat) : Prop := tokW q sw (1, w)
theorem cutZ_b (v : Int) : -1000000 ≤ cutZ v ∧ cutZ v ≤ 1000000 := by
  unfold cutZ
  split
  · omega
  · split <;> omega
theorem fdiv_b {a b : Int} (hb : b ≠ 0) (h1 : -1000000 ≤ a) (h2 : a ≤ 1000000) : -1000000 ≤ a.fdiv b ∧ a.fdiv b ≤ 1000000 := by
  have e := Int.mul_fdiv_add_fmod a b
  by_cases p : 0 < b
  · have r1 := Int.fmod_nonneg_of_pos a p
    have r2 := Int.fmod_lt_of_pos a p
    constructor
    · apply Int.not_lt.mp
      intro hq
      have : b * (a.fdiv b + 1) ≤ 1 * (a.fdiv b + 1) := Int.mul_le_mul_of_nonpos_right (by omega) (by omega)
      rw [Int.mul_add] at this
      omega
    · apply Int.not_lt.mp
      intro hq
      have : 1 * (a.fdiv b) ≤ b * (a.fdiv b) := Int.mul_le_mul_of_nonneg_right (by omega) (by omega)
      omega
  · have p' : b < 0 := by omega
    have r1 : a.fmod b ≤ 0 := by
      have := Int.fmod_nonneg_of_pos (-a) (show 0 < -b by omega)
      rw [Int.neg_fmod_neg] at this
      omega
    have r2 : b < a.fmod b := by
      have := Int.fmod_lt_of_pos (-a) (show 0 < -b by omega)
      rw [Int.neg_fmod_neg] at this
      omega
    constructor
    · apply Int.not_lt.mp
      intro hq
      have : b * (a.fdiv b + 1) ≥ -1 * (a.fdiv b + 1) := Int.mul_le_mul_of_nonpos_right (by omega) (by omega)
      rw [Int.mul_add] at this
      omega
    · apply Int.not_lt.mp
      intro hq
      have : b * (a.fdiv b) ≤ -1 * (a.fdiv b) := Int.mul_le_mul_of_nonneg_right (by omega) (by omega)
      omega
/-- what a token that fits does -/
theorem tokD_c {bs bs' : List Bool} {k x : Nat} (h : tokD bs (k, x) = some bs') :
    (k = 0 ∧ bs' = false :: bs) ∨ (k = 1 ∧ bs' = false :: bs) ∨ (k = 2 ∧ ∃ r, bs = true :: r ∧ bs' = true :: r) ∨
    (k = 3 ∧ ∃ r, bs = true :: true :: r ∧ bs' = true :: r ∧ (x = 21 ∨ x = 20)) ∨
    (k = 3 ∧ ∃ r, bs = false :: false :: r ∧ bs' = (x == 60 || x == 61 || x == 62) :: r ∧ ¬ (x = 21 ∨ x = 20)) ∨
    (k = 4 ∧ bs' = true :: bs) ∨ (k = 5 ∧ ∃ r, bs = false :: r ∧ bs' = false :: r) := by
  unfold tokD at h
  split at h
  · cases h; next e => cases e; exact Or.inl ⟨rfl, rfl⟩
  · cases h; next e => cases e; exact Or.inr (Or.inl ⟨rfl, rfl⟩)
  · cases h; next e => cases e; exact Or.inr (Or.inr (Or.inl ⟨rfl, _, rfl, rfl⟩))
  · next b a r s e =>
    cases e
    by_cases q : x = 21 ∨ x = 20
    · have q' : (x == 21 || x == 20) = true := by rcases q with rfl | rfl <;> rfl
      rw [q'] at h
      cases a <;> cases b <;> simp at h
      exact Or.inr (Or.inr (Or.inr (Or.inl ⟨rfl, _, rfl, h.symm, q⟩)))
    · have q' : (x == 21 || x == 20) = false := by simp; omega
      rw [q'] at h
      cases a <;> cases b <;> simp at h
      exact Or.inr (Or.inr (Or.inr (Or.inr (Or.inl ⟨rfl, _, rfl, by rw [← h], q⟩))))
  · cases h; next e => cases e; exact Or.inr (Or.inr (Or.inr (Or.inr (Or.inr (Or.inl ⟨rfl, rfl⟩)))))
  · cases h; next e => cases e; exact Or.inr (Or.inr (Or.inr (Or.inr (Or.inr (Or.inr ⟨rfl, _, rfl, rfl⟩)))))
  · cases h
theorem op2_n {s : Nat} {a b : Int} (hs : s ∈ [43, 45, 42, 47, 24, 25, 60, 62, 61, 21, 20]) (ha : vOK false a) (hb : vOK false b) : vOK (s == 60 || s == 61 || s == 62) (op2 s a b) := by
  obtain ⟨a1, a2, -⟩ := ha
  obtain ⟨b1, b2, -⟩ := hb
  simp only [List.mem_cons, List.not_mem_nil, or_false] at hs
  have c1 := cutZ_b (a + b)
  have c2 := cutZ_b (a - b)
  have c3 := cutZ_b (a * b)
  have c4 : b ≠ 0 → -1000000 ≤ a.fdiv b ∧ a.fdiv b ≤ 1000000 := fun q => fdiv_b q a1 a2
  rcases hs with rfl | rfl | rfl | rfl | rfl | rfl | rfl | rfl | rfl | rfl | rfl
  all_goals simp [op2, vOK]
  · exact c1
  · exact c2
  · exact c3
  all_goals split
  all_goals first | omega | (have := c4 (by assumption); omega)
theorem op2_t {s : Nat} {a b : Int} (hs : s = 21 ∨ s = 20) (ha : vOK true a) (hb : vOK true b) : vOK true (op2 s a b) := by
  obtain ⟨-, -, a3⟩ := ha
  obtain ⟨-, -, b3⟩ := hb
  rcases hs with rfl | rfl <;> rcases a3 rfl with rfl | rfl <;> rcases b3 rfl with rfl | rfl <;> simp [op2, vOK]
theorem fd_dv {a b : Int} : b ∣ a ↔ a - a.tdiv b * b = 0 := by
  have e := Int.mul_tdiv_add_tmod a b
  rw [Int.mul_comm] at e
  rw [Int.dvd_iff_tmod_eq_zero]
  omega
theorem fd_0 {a b : Int} (h : a - a.tdiv b * b = 0) : a.fdiv b = a.tdiv b := by
  rw [Int.fdiv_eq_tdiv, if_pos (fd_dv.mpr h), Int.sub_zero]
theorem fd_s {a b : Int} (h : 0 ≤ a ↔ 0 ≤ b) : a.fdiv b = a.tdiv b := by
  by_cases q : b ∣ a
  · exact fd_0 (fd_dv.mp q)
  · rw [Int.fdiv_eq_tdiv, if_neg q]
    by_cases p : 0 ≤ a
    · rw [if_pos p, if_pos (h.mp p), Int.sub_zero]
    · rw [if_neg p, if_neg (fun x => p (h.mpr x)), Int.sign_eq_neg_one_of_neg (by omega)]
      omega
theorem fd_n {a b : Int} (hb : b ≠ 0) (h0 : a - a.tdiv b * b ≠ 0) (h : ¬ (0 ≤ a ↔ 0 ≤ b)) : a.fdiv b = a.tdiv b - 1 := by
  rw [Int.fdiv_eq_tdiv, if_neg (fun x => h0 (fd_dv.mp x))]
  by_cases p : 0 ≤ a
  · rw [if_pos p, if_neg (by omega)]
  · rw [if_neg p, if_pos (by omega), Int.sign_eq_one_of_pos (by omega)]
theorem x_msb (x : Int32) : (0 ≤ x) ↔ x.toBitVec.msb = false := by
  rw [Int32.le_iff_toBitVec_sle, BitVec.sle_eq_decide, BitVec.msb_eq_toInt]
  simp
theorem xr_32 (x y : Int32) : (0 ≤ x ^^^ y) ↔ (0 ≤ x ↔ 0 ≤ y) := by
  rw [x_msb, x_msb, x_msb, Int32.toBitVec_xor, BitVec.msb_xor]
  cases x.toBitVec.msb <;> cases y.toBitVec.msb <;> simp
theorem and01 {a b : Int} (ha : a = 0 ∨ a = 1) (hb : b = 0 ∨ b = 1) : a * b = op2 21 a b := by
  rcases ha with rfl | rfl <;> rcases hb with rfl | rfl <;> simp [op2]
theorem or01 {a b : Int} (ha : a = 0 ∨ a = 1) (hb : b = 0 ∨ b = 1) : (if a + b ≤ 0 then (0 : Int) else 1) = op2 20 a b := by
  rcases ha with rfl | rfl <;> rcases hb with rfl | rfl <;> simp [op2]
/-! piles -/
def stA (g : Nat → Int32) : List Int → Prop
  | [] => True
  | v :: r => g r.length = am_i v ∧ stA g r
def stB (g : Nat → Int64) : List Int → Prop
  | [] => True
  | v :: r => g r.length = am_l v ∧ stB g r
theorem stA_c {g g' : Nat → Int32} : ∀ {vs : List Int}, stA g vs → (∀ k, k < vs.length → g' k = g k) → stA g' vs
  | [], _, _ => trivial
  | v :: r, h, e => ⟨by rw [e r.length (Nat.lt_succ_self _)]; exact h.1, stA_c h.2 (fun k hk => e k (Nat.lt_succ_of_lt hk))⟩
theorem stB_c {g g' : Nat → Int64} : ∀ {vs : List Int}, stB g vs → (∀ k, k < vs.length → g' k = g k) → stB g' vs
  | [], _, _ => trivial
  | v :: r, h, e => ⟨by rw [e r.length (Nat.lt_succ_self _)]; exact h.1, stB_c h.2 (fun k hk => e k (Nat.lt_succ_of_lt hk))⟩
theorem dv4 {k s : Nat} (hs : s < 10000) : ((10000 * k + s : Nat) : Int).tdiv 10000 = (k : Int) := by
  rw [Int.tdiv_eq_ediv_of_nonneg (by omega)]
  omega
/-- frames -/
def fr (S : Nat → Nat → Bool) (I I' : tI) : Prop := ∀ q k, S q k = false → I' q k = I q k
theorem fr_r (S : Nat → Nat → Bool) (I : tI) : fr S I I := fun _ _ _ => rfl
theorem fr_t {S : Nat → Nat → Bool} {I I' I'' : tI} (h1 : fr S I I') (h2 : fr S I' I'') : fr S I I'' := fun q k h => (h2 q k h).trans (h1 q k h)
theorem fr_m {S T : Nat → Nat → Bool} {I I' : tI} (hS : ∀ q k, T q k = false → S q k = false) (h1 : fr S I I') : fr T I I' := fun q k h => h1 q k (hS q k h)
/-! ===== the class's machine ===== -/
theorem rMa {R : tR} {m : Nat} (h : st_Rx R) (hm : m = 36 ∨ m = 43) : am_cf 138 m 6 = true ∧ R m 0 = m + 1 ∧ R m 1 = m + 2 ∧ R m 2 = m + 3 ∧ R m 4 = m + 4 ∧ (∀ i, am_cs R 138 (m + 1) i = am_ok i 26) ∧ (∀ i, am_cs R 138 (m + 2) i = am_ok i 8) ∧ (∀ i, am_cs R 138 (m + 3) i = am_ok i 6) ∧ (∀ i, am_cs R 138 (m + 4) i = am_ok i 64) ∧ (∀ i, am_ca 138 (m + 1) 1 i = am_ok i 26) ∧ (∀ i, am_ca 138 (m + 2) 1 i = am_ok i 8) ∧ (∀ i, am_ca 138 (m + 3) 1 i = am_ok i 6) ∧ (∀ i, am_ca 138 (m + 4) 1 i = am_ok i 64) := by
  rcases hm with rfl | rfl <;> simp only [rX h, ly_cf, ly_csx, ly_cax, Nat.reduceAdd, implies_true, and_self]
theorem rCo {R : tR} {cc : Nat} (hcc : cc = 9 ∨ cc = 17 ∨ cc = 27) : Nat.blt cc 138 = true ∧ Nat.ble 1 (am_kd cc).1 = true ∧ Nat.ble (am_kd cc).1 5 = true ∧ am_ln R cc = 1600 ∧ (∀ i, am_cs R 138 cc i = am_ok i 1600) := by
  rcases hcc with rfl | rfl | rfl <;> simp only [ly_kd, ly_ln, ly_csx, implies_true, and_true] <;> decide
section EVX
variable {d : Nat} {J : tJ} {R : tR} {M : am_Mem}
theorem x_cut (v : Int) (h1 : -9000000000000000000 ≤ v) (h2 : v ≤ 9000000000000000000) : am_E (d + 1) 55 0 [(0, .long (am_l v))] [] M = some (some (.int (am_i (cutZ v))), M) := by
  rw [sg_X6_cut_0]
  unfold cutZ
  by_cases q1 : 1000000 < v
  · simp (disch := first | assumption | omega) only [am_i_add, am_i_sub, am_i_mul, am_ok_i, am_i_cl, n_lt, n_le, n_eq, n_lt0, n_le0, n_0lt, n_0le, n_eq0, ne_eq, ↓reduceIte, not_true_eq_false, not_false_eq_true, and_true, true_and, and_false, false_and, eq_T, eq_F, lt_T, lt_F, le_T, le_F, qn_T, qn_F, and_F, b01_T, b01_F, e_isIn, Int32.toInt_toInt64, am_i_toInt, am_l_toInt, Int.toNat_natCast, Int.reduceToNat, Int.reduceAdd, Int.reduceSub, Int.reduceMul, Int.reduceNeg, Nat.reduceAdd, Nat.reduceMul, Nat.add_zero, Nat.mul_zero, Nat.zero_add, am_zb0, am_zb1, ↓Bool.cond_decide, cond_true, cond_false, lc_le, lc_ge, l_toi]
  · by_cases q2 : v < -1000000
    · simp (disch := first | assumption | omega) only [am_i_add, am_i_sub, am_i_mul, am_ok_i, am_i_cl, n_lt, n_le, n_eq, n_lt0, n_le0, n_0lt, n_0le, n_eq0, ne_eq, ↓reduceIte, not_true_eq_false, not_false_eq_true, and_true, true_and, and_false, false_and, eq_T, eq_F, lt_T, lt_F, le_T, le_F, qn_T, qn_F, and_F, b01_T, b01_F, e_isIn, Int32.toInt_toInt64, am_i_toInt, am_l_toInt, Int.toNat_natCast, Int.reduceToNat, Int.reduceAdd, Int.reduceSub, Int.reduceMul, Int.reduceNeg, Nat.reduceAdd, Nat.reduceMul, Nat.add_zero, Nat.mul_zero, Nat.zero_add, am_zb0, am_zb1, ↓Bool.cond_decide, cond_true, cond_false, lc_le, lc_ge, l_toi]
    · simp (disch := first | assumption | omega) only [am_i_add, am_i_sub, am_i_mul, am_ok_i, am_i_cl, n_lt, n_le, n_eq, n_lt0, n_le0, n_0lt, n_0le, n_eq0, ne_eq, ↓reduceIte, not_true_eq_false, not_false_eq_true, and_true, true_and, and_false, false_and, eq_T, eq_F, lt_T, lt_F, le_T, le_F, qn_T, qn_F, and_F, b01_T, b01_F, e_isIn, Int32.toInt_toInt64, am_i_toInt, am_l_toInt, Int.toNat_natCast, Int.reduceToNat, Int.reduceAdd, Int.reduceSub, Int.reduceMul, Int.reduceNeg, Nat.reduceAdd, Nat.reduceMul, Nat.add_zero, Nat.mul_zero, Nat.zero_add, am_zb0, am_zb1, ↓Bool.cond_decide, cond_true, cond_false, lc_le, lc_ge, l_toi]
theorem x_fdiv {a b : Int} (hb : b ≠ 0) (a1 : -1000000 ≤ a) (a2 : a ≤ 1000000) (b1 : -1000000 ≤ b) (b2 : b ≤ 1000000) : am_E (d + 1) 297 0 [(0, .int (am_i a)), (1, .int (am_i b))] [] M = some (some (.int (am_i (a.fdiv b))), M) := by
  have t1 : -1000000 ≤ a.tdiv b ∧ a.tdiv b ≤ 1000000 := by
    have := Int.natAbs_tdiv_le_natAbs a b
    omega
  have t2 : (a.tdiv b * b).natAbs ≤ a.natAbs := by
    rw [Int.natAbs_mul, Int.natAbs_tdiv]
    exact Nat.div_mul_le_self _ _
  have e0 : (0 ≤ am_i a ^^^ am_i b) ↔ (0 ≤ a ↔ 0 ≤ b) := by
    rw [xr_32, n_0le (by omega) (by omega), n_0le (by omega) (by omega)]
  rw [sg_J_floorDiv_0]
  by_cases q1 : (0 ≤ a ↔ 0 ≤ b)
  · rw [decide_eq_true (e0.mpr q1), fd_s q1]
    simp (disch := first | assumption | omega) only [am_i_add, am_i_sub, am_i_mul, am_ok_i, am_i_cl, n_lt, n_le, n_eq, n_lt0, n_le0, n_0lt, n_0le, n_eq0, ne_eq, ↓reduceIte, not_true_eq_false, not_false_eq_true, and_true, true_and, and_false, false_and, eq_T, eq_F, lt_T, lt_F, le_T, le_F, qn_T, qn_F, and_F, b01_T, b01_F, e_isIn, Int32.toInt_toInt64, am_i_toInt, am_l_toInt, Int.toNat_natCast, Int.reduceToNat, Int.reduceAdd, Int.reduceSub, Int.reduceMul, Int.reduceNeg, Nat.reduceAdd, Nat.reduceMul, Nat.add_zero, Nat.mul_zero, Nat.zero_add, am_zb0, am_zb1, ↓Bool.cond_decide, cond_true, cond_false, ↓am_let_s, inz, i_div, sg_J_floorDiv_21]
  · rw [decide_eq_false (fun e => q1 (e0.mp e))]
    by_cases q2 : a.tdiv b * b = a
    · rw [fd_0 (by omega)]
      simp (disch := first | assumption | omega) only [am_i_add, am_i_sub, am_i_mul, am_ok_i, am_i_cl, n_lt, n_le, n_eq, n_lt0, n_le0, n_0lt, n_0le, n_eq0, ne_eq, ↓reduceIte, not_true_eq_false, not_false_eq_true, and_true, true_and, and_false, false_and, eq_T, eq_F, lt_T, lt_F, le_T, le_F, qn_T, qn_F, and_F, b01_T, b01_F, e_isIn, Int32.toInt_toInt64, am_i_toInt, am_l_toInt, Int.toNat_natCast, Int.reduceToNat, Int.reduceAdd, Int.reduceSub, Int.reduceMul, Int.reduceNeg, Nat.reduceAdd, Nat.reduceMul, Nat.add_zero, Nat.mul_zero, Nat.zero_add, am_zb0, am_zb1, ↓Bool.cond_decide, cond_true, cond_false, ↓am_let_s, inz, i_div, sg_J_floorDiv_21]
    · rw [fd_n hb (by omega) q1]
      simp (disch := first | assumption | omega) only [am_i_add, am_i_sub, am_i_mul, am_ok_i, am_i_cl, n_lt, n_le, n_eq, n_lt0, n_le0, n_0lt, n_0le, n_eq0, ne_eq, ↓reduceIte, not_true_eq_false, not_false_eq_true, and_true, true_and, and_false, false_and, eq_T, eq_F, lt_T, lt_F, le_T, le_F, qn_T, qn_F, and_F, b01_T, b01_F, e_isIn, Int32.toInt_toInt64, am_i_toInt, am_l_toInt, Int.toNat_natCast, Int.reduceToNat, Int.reduceAdd, Int.reduceSub, Int.reduceMul, Int.reduceNeg, Nat.reduceAdd, Nat.reduceMul, Nat.add_zero, Nat.mul_zero, Nat.zero_add, am_zb0, am_zb1, ↓Bool.cond_decide, cond_true, cond_false, ↓am_let_s, inz, i_div, sg_J_floorDiv_21]
theorem x_two {s : Nat} {a b : Int} (hs : s ∈ [43, 45, 42, 47, 24, 25, 60, 62, 61, 21, 20]) (a1 : -1000000 ≤ a) (a2 : a ≤ 1000000) (b1 : -1000000 ≤ b) (b2 : b ≤ 1000000) : am_E (d + 2) 54 0 [(0, .int (am_i s)), (1, .int (am_i a)), (2, .int (am_i b))] [] M = some (some (.int (am_i (op2 s a b))), M) := by
  have m1 : -1000000000000 ≤ a * b ∧ a * b ≤ 1000000000000 := by
    have : (a * b).natAbs ≤ 1000000 * 1000000 := by
      rw [Int.natAbs_mul]
      exact Nat.mul_le_mul (by omega) (by omega)
    omega
  have x1 := fun d => x_cut (d := d) (M := M) (a + b) (by omega) (by omega)
  have x2 := fun d => x_cut (d := d) (M := M) (a - b) (by omega) (by omega)
  have x3 := fun d => x_cut (d := d) (M := M) (a * b) (by omega) (by omega)
  rw [sg_X6_workTwo_0]
  simp only [List.mem_cons, List.not_mem_nil, or_false] at hs
  rcases hs with rfl | rfl | rfl | rfl | rfl | rfl | rfl | rfl | rfl | rfl | rfl
  · simp (disch := first | assumption | omega) only [am_i_add, am_i_sub, am_i_mul, am_ok_i, am_i_cl, n_lt, n_le, n_eq, n_lt0, n_le0, n_0lt, n_0le, n_eq0, ne_eq, ↓reduceIte, not_true_eq_false, not_false_eq_true, and_true, true_and, and_false, false_and, eq_T, eq_F, lt_T, lt_F, le_T, le_F, qn_T, qn_F, and_F, b01_T, b01_F, e_isIn, Int32.toInt_toInt64, am_i_toInt, am_l_toInt, Int.toNat_natCast, Int.reduceToNat, Int.reduceAdd, Int.reduceSub, Int.reduceMul, Int.reduceNeg, Nat.reduceAdd, Nat.reduceMul, Nat.add_zero, Nat.mul_zero, Nat.zero_add, am_zb0, am_zb1, ↓Bool.cond_decide, cond_true, cond_false, ↓bI_p, bIJ_s, op2, i_tol, am_l_add, x1, Int.cast_ofNat_Int]
  · simp (disch := first | assumption | omega) only [am_i_add, am_i_sub, am_i_mul, am_ok_i, am_i_cl, n_lt, n_le, n_eq, n_lt0, n_le0, n_0lt, n_0le, n_eq0, ne_eq, ↓reduceIte, not_true_eq_false, not_false_eq_true, and_true, true_and, and_false, false_and, eq_T, eq_F, lt_T, lt_F, le_T, le_F, qn_T, qn_F, and_F, b01_T, b01_F, e_isIn, Int32.toInt_toInt64, am_i_toInt, am_l_toInt, Int.toNat_natCast, Int.reduceToNat, Int.reduceAdd, Int.reduceSub, Int.reduceMul, Int.reduceNeg, Nat.reduceAdd, Nat.reduceMul, Nat.add_zero, Nat.mul_zero, Nat.zero_add, am_zb0, am_zb1, ↓Bool.cond_decide, cond_true, cond_false, ↓bI_p, bIJ_s, op2, i_tol, am_l_sub, x2, Int.cast_ofNat_Int]
  · simp (disch := first | assumption | omega) only [am_i_add, am_i_sub, am_i_mul, am_ok_i, am_i_cl, n_lt, n_le, n_eq, n_lt0, n_le0, n_0lt, n_0le, n_eq0, ne_eq, ↓reduceIte, not_true_eq_false, not_false_eq_true, and_true, true_and, and_false, false_and, eq_T, eq_F, lt_T, lt_F, le_T, le_F, qn_T, qn_F, and_F, b01_T, b01_F, e_isIn, Int32.toInt_toInt64, am_i_toInt, am_l_toInt, Int.toNat_natCast, Int.reduceToNat, Int.reduceAdd, Int.reduceSub, Int.reduceMul, Int.reduceNeg, Nat.reduceAdd, Nat.reduceMul, Nat.add_zero, Nat.mul_zero, Nat.zero_add, am_zb0, am_zb1, ↓Bool.cond_decide, cond_true, cond_false, ↓bI_p, bIJ_s, op2, i_tol, am_l_mul, x3, Int.cast_ofNat_Int]
  · by_cases q : b = 0
    · simp (disch := first | assumption | omega) only [am_i_add, am_i_sub, am_i_mul, am_ok_i, am_i_cl, n_lt, n_le, n_eq, n_lt0, n_le0, n_0lt, n_0le, n_eq0, ne_eq, ↓reduceIte, not_true_eq_false, not_false_eq_true, and_true, true_and, and_false, false_and, eq_T, eq_F, lt_T, lt_F, le_T, le_F, qn_T, qn_F, and_F, b01_T, b01_F, e_isIn, Int32.toInt_toInt64, am_i_toInt, am_l_toInt, Int.toNat_natCast, Int.reduceToNat, Int.reduceAdd, Int.reduceSub, Int.reduceMul, Int.reduceNeg, Nat.reduceAdd, Nat.reduceMul, Nat.add_zero, Nat.mul_zero, Nat.zero_add, am_zb0, am_zb1, ↓Bool.cond_decide, cond_true, cond_false, ↓bI_p, bIJ_s, op2, Int.cast_ofNat_Int, q]
    · simp (disch := first | assumption | omega) only [am_i_add, am_i_sub, am_i_mul, am_ok_i, am_i_cl, n_lt, n_le, n_eq, n_lt0, n_le0, n_0lt, n_0le, n_eq0, ne_eq, ↓reduceIte, not_true_eq_false, not_false_eq_true, and_true, true_and, and_false, false_and, eq_T, eq_F, lt_T, lt_F, le_T, le_F, qn_T, qn_F, and_F, b01_T, b01_F, e_isIn, Int32.toInt_toInt64, am_i_toInt, am_l_toInt, Int.toNat_natCast, Int.reduceToNat, Int.reduceAdd, Int.reduceSub, Int.reduceMul, Int.reduceNeg, Nat.reduceAdd, Nat.reduceMul, Nat.add_zero, Nat.mul_zero, Nat.zero_add, am_zb0, am_zb1, ↓Bool.cond_decide, cond_true, cond_false, ↓bI_p, bIJ_s, op2, Int.cast_ofNat_Int, x_fdiv q a1 a2 b1 b2]
  · by_cases q : b < a
    · simp (disch := first | assumption | omega) only [am_i_add, am_i_sub, am_i_mul, am_ok_i, am_i_cl, n_lt, n_le, n_eq, n_lt0, n_le0, n_0lt, n_0le, n_eq0, ne_eq, ↓reduceIte, not_true_eq_false, not_false_eq_true, and_true, true_and, and_false, false_and, eq_T, eq_F, lt_T, lt_F, le_T, le_F, qn_T, qn_F, and_F, b01_T, b01_F, e_isIn, Int32.toInt_toInt64, am_i_toInt, am_l_toInt, Int.toNat_natCast, Int.reduceToNat, Int.reduceAdd, Int.reduceSub, Int.reduceMul, Int.reduceNeg, Nat.reduceAdd, Nat.reduceMul, Nat.add_zero, Nat.mul_zero, Nat.zero_add, am_zb0, am_zb1, ↓Bool.cond_decide, cond_true, cond_false, op2, Int.cast_ofNat_Int, true_or, or_true, if_true]
    · simp (disch := first | assumption | omega) only [am_i_add, am_i_sub, am_i_mul, am_ok_i, am_i_cl, n_lt, n_le, n_eq, n_lt0, n_le0, n_0lt, n_0le, n_eq0, ne_eq, ↓reduceIte, not_true_eq_false, not_false_eq_true, and_true, true_and, and_false, false_and, eq_T, eq_F, lt_T, lt_F, le_T, le_F, qn_T, qn_F, and_F, b01_T, b01_F, e_isIn, Int32.toInt_toInt64, am_i_toInt, am_l_toInt, Int.toNat_natCast, Int.reduceToNat, Int.reduceAdd, Int.reduceSub, Int.reduceMul, Int.reduceNeg, Nat.reduceAdd, Nat.reduceMul, Nat.add_zero, Nat.mul_zero, Nat.zero_add, am_zb0, am_zb1, ↓Bool.cond_decide, cond_true, cond_false, op2, Int.cast_ofNat_Int, true_or, or_true, if_true]
  · by_cases q : a < b
    · simp (disch := first | assumption | omega) only [am_i_add, am_i_sub, am_i_mul, am_ok_i, am_i_cl, n_lt, n_le, n_eq, n_lt0, n_le0, n_0lt, n_0le, n_eq0, ne_eq, ↓reduceIte, not_true_eq_false, not_false_eq_true, and_true, true_and, and_false, false_and, eq_T, eq_F, lt_T, lt_F, le_T, le_F, qn_T, qn_F, and_F, b01_T, b01_F, e_isIn, Int32.toInt_toInt64, am_i_toInt, am_l_toInt, Int.toNat_natCast, Int.reduceToNat, Int.reduceAdd, Int.reduceSub, Int.reduceMul, Int.reduceNeg, Nat.reduceAdd, Nat.reduceMul, Nat.add_zero, Nat.mul_zero, Nat.zero_add, am_zb0, am_zb1, ↓Bool.cond_decide, cond_true, cond_false, op2, Int.cast_ofNat_Int, or_self, if_false]
    · simp (disch := first | assumption | omega) only [am_i_add, am_i_sub, am_i_mul, am_ok_i, am_i_cl, n_lt, n_le, n_eq, n_lt0, n_le0, n_0lt, n_0le, n_eq0, ne_eq, ↓reduceIte, not_true_eq_false, not_false_eq_true, and_true, true_and, and_false, false_and, eq_T, eq_F, lt_T, lt_F, le_T, le_F, qn_T, qn_F, and_F, b01_T, b01_F, e_isIn, Int32.toInt_toInt64, am_i_toInt, am_l_toInt, Int.toNat_natCast, Int.reduceToNat, Int.reduceAdd, Int.reduceSub, Int.reduceMul, Int.reduceNeg, Nat.reduceAdd, Nat.reduceMul, Nat.add_zero, Nat.mul_zero, Nat.zero_add, am_zb0, am_zb1, ↓Bool.cond_decide, cond_true, cond_false, op2, Int.cast_ofNat_Int, or_self, if_false]
  · by_cases q : a < b
    · simp (disch := first | assumption | omega) only [am_i_add, am_i_sub, am_i_mul, am_ok_i, am_i_cl, n_lt, n_le, n_eq, n_lt0, n_le0, n_0lt, n_0le, n_eq0, ne_eq, ↓reduceIte, not_true_eq_false, not_false_eq_true, and_true, true_and, and_false, false_and, eq_T, eq_F, lt_T, lt_F, le_T, le_F, qn_T, qn_F, and_F, b01_T, b01_F, e_isIn, Int32.toInt_toInt64, am_i_toInt, am_l_toInt, Int.toNat_natCast, Int.reduceToNat, Int.reduceAdd, Int.reduceSub, Int.reduceMul, Int.reduceNeg, Nat.reduceAdd, Nat.reduceMul, Nat.add_zero, Nat.mul_zero, Nat.zero_add, am_zb0, am_zb1, ↓Bool.cond_decide, cond_true, cond_false, op2, Int.cast_ofNat_Int]
    · simp (disch := first | assumption | omega) only [am_i_add, am_i_sub, am_i_mul, am_ok_i, am_i_cl, n_lt, n_le, n_eq, n_lt0, n_le0, n_0lt, n_0le, n_eq0, ne_eq, ↓reduceIte, not_true_eq_false, not_false_eq_true, and_true, true_and, and_false, false_and, eq_T, eq_F, lt_T, lt_F, le_T, le_F, qn_T, qn_F, and_F, b01_T, b01_F, e_isIn, Int32.toInt_toInt64, am_i_toInt, am_l_toInt, Int.toNat_natCast, Int.reduceToNat, Int.reduceAdd, Int.reduceSub, Int.reduceMul, Int.reduceNeg, Nat.reduceAdd, Nat.reduceMul, Nat.add_zero, Nat.mul_zero, Nat.zero_add, am_zb0, am_zb1, ↓Bool.cond_decide, cond_true, cond_false, op2, Int.cast_ofNat_Int]
  · by_cases q : b < a
    · simp (disch := first | assumption | omega) only [am_i_add, am_i_sub, am_i_mul, am_ok_i, am_i_cl, n_lt, n_le, n_eq, n_lt0, n_le0, n_0lt, n_0le, n_eq0, ne_eq, ↓reduceIte, not_true_eq_false, not_false_eq_true, and_true, true_and, and_false, false_and, eq_T, eq_F, lt_T, lt_F, le_T, le_F, qn_T, qn_F, and_F, b01_T, b01_F, e_isIn, Int32.toInt_toInt64, am_i_toInt, am_l_toInt, Int.toNat_natCast, Int.reduceToNat, Int.reduceAdd, Int.reduceSub, Int.reduceMul, Int.reduceNeg, Nat.reduceAdd, Nat.reduceMul, Nat.add_zero, Nat.mul_zero, Nat.zero_add, am_zb0, am_zb1, ↓Bool.cond_decide, cond_true, cond_false, op2, Int.cast_ofNat_Int]
    · simp (disch := first | assumption | omega) only [am_i_add, am_i_sub, am_i_mul, am_ok_i, am_i_cl, n_lt, n_le, n_eq, n_lt0, n_le0, n_0lt, n_0le, n_eq0, ne_eq, ↓reduceIte, not_true_eq_false, not_false_eq_true, and_true, true_and, and_false, false_and, eq_T, eq_F, lt_T, lt_F, le_T, le_F, qn_T, qn_F, and_F, b01_T, b01_F, e_isIn, Int32.toInt_toInt64, am_i_toInt, am_l_toInt, Int.toNat_natCast, Int.reduceToNat, Int.reduceAdd, Int.reduceSub, Int.reduceMul, Int.reduceNeg, Nat.reduceAdd, Nat.reduceMul, Nat.add_zero, Nat.mul_zero, Nat.zero_add, am_zb0, am_zb1, ↓Bool.cond_decide, cond_true, cond_false, op2, Int.cast_ofNat_Int]
  · by_cases q : a = b
    · simp (disch := first | assumption | omega) only [am_i_add, am_i_sub, am_i_mul, am_ok_i, am_i_cl, n_lt, n_le, n_eq, n_lt0, n_le0, n_0lt, n_0le, n_eq0, ne_eq, ↓reduceIte, not_true_eq_false, not_false_eq_true, and_true, true_and, and_false, false_and, eq_T, eq_F, lt_T, lt_F, le_T, le_F, qn_T, qn_F, and_F, b01_T, b01_F, e_isIn, Int32.toInt_toInt64, am_i_toInt, am_l_toInt, Int.toNat_natCast, Int.reduceToNat, Int.reduceAdd, Int.reduceSub, Int.reduceMul, Int.reduceNeg, Nat.reduceAdd, Nat.reduceMul, Nat.add_zero, Nat.mul_zero, Nat.zero_add, am_zb0, am_zb1, ↓Bool.cond_decide, cond_true, cond_false, op2, Int.cast_ofNat_Int, q]
    · simp (disch := first | assumption | omega) only [am_i_add, am_i_sub, am_i_mul, am_ok_i, am_i_cl, n_lt, n_le, n_eq, n_lt0, n_le0, n_0lt, n_0le, n_eq0, ne_eq, ↓reduceIte, not_true_eq_false, not_false_eq_true, and_true, true_and, and_false, false_and, eq_T, eq_F, lt_T, lt_F, le_T, le_F, qn_T, qn_F, and_F, b01_T, b01_F, e_isIn, Int32.toInt_toInt64, am_i_toInt, am_l_toInt, Int.toNat_natCast, Int.reduceToNat, Int.reduceAdd, Int.reduceSub, Int.reduceMul, Int.reduceNeg, Nat.reduceAdd, Nat.reduceMul, Nat.add_zero, Nat.mul_zero, Nat.zero_add, am_zb0, am_zb1, ↓Bool.cond_decide, cond_true, cond_false, op2, Int.cast_ofNat_Int]
  · by_cases q : b < a
    · simp (disch := first | assumption | omega) only [am_i_add, am_i_sub, am_i_mul, am_ok_i, am_i_cl, n_lt, n_le, n_eq, n_lt0, n_le0, n_0lt, n_0le, n_eq0, ne_eq, ↓reduceIte, not_true_eq_false, not_false_eq_true, and_true, true_and, and_false, false_and, eq_T, eq_F, lt_T, lt_F, le_T, le_F, qn_T, qn_F, and_F, b01_T, b01_F, e_isIn, Int32.toInt_toInt64, am_i_toInt, am_l_toInt, Int.toNat_natCast, Int.reduceToNat, Int.reduceAdd, Int.reduceSub, Int.reduceMul, Int.reduceNeg, Nat.reduceAdd, Nat.reduceMul, Nat.add_zero, Nat.mul_zero, Nat.zero_add, am_zb0, am_zb1, ↓Bool.cond_decide, cond_true, cond_false, op2, Int.cast_ofNat_Int, true_or, or_true, if_true]
    · simp (disch := first | assumption | omega) only [am_i_add, am_i_sub, am_i_mul, am_ok_i, am_i_cl, n_lt, n_le, n_eq, n_lt0, n_le0, n_0lt, n_0le, n_eq0, ne_eq, ↓reduceIte, not_true_eq_false, not_false_eq_true, and_true, true_and, and_false, false_and, eq_T, eq_F, lt_T, lt_F, le_T, le_F, qn_T, qn_F, and_F, b01_T, b01_F, e_isIn, Int32.toInt_toInt64, am_i_toInt, am_l_toInt, Int.toNat_natCast, Int.reduceToNat, Int.reduceAdd, Int.reduceSub, Int.reduceMul, Int.reduceNeg, Nat.reduceAdd, Nat.reduceMul, Nat.add_zero, Nat.mul_zero, Nat.zero_add, am_zb0, am_zb1, ↓Bool.cond_decide, cond_true, cond_false, op2, Int.cast_ofNat_Int, true_or, or_true, if_true]
  · by_cases q : a < b
    · simp (disch := first | assumption | omega) only [am_i_add, am_i_sub, am_i_mul, am_ok_i, am_i_cl, n_lt, n_le, n_eq, n_lt0, n_le0, n_0lt, n_0le, n_eq0, ne_eq, ↓reduceIte, not_true_eq_false, not_false_eq_true, and_true, true_and, and_false, false_and, eq_T, eq_F, lt_T, lt_F, le_T, le_F, qn_T, qn_F, and_F, b01_T, b01_F, e_isIn, Int32.toInt_toInt64, am_i_toInt, am_l_toInt, Int.toNat_natCast, Int.reduceToNat, Int.reduceAdd, Int.reduceSub, Int.reduceMul, Int.reduceNeg, Nat.reduceAdd, Nat.reduceMul, Nat.add_zero, Nat.mul_zero, Nat.zero_add, am_zb0, am_zb1, ↓Bool.cond_decide, cond_true, cond_false, op2, Int.cast_ofNat_Int, or_self, if_false]
    · simp (disch := first | assumption | omega) only [am_i_add, am_i_sub, am_i_mul, am_ok_i, am_i_cl, n_lt, n_le, n_eq, n_lt0, n_le0, n_0lt, n_0le, n_eq0, ne_eq, ↓reduceIte, not_true_eq_false, not_false_eq_true, and_true, true_and, and_false, false_and, eq_T, eq_F, lt_T, lt_F, le_T, le_F, qn_T, qn_F, and_F, b01_T, b01_F, e_isIn, Int32.toInt_toInt64, am_i_toInt, am_l_toInt, Int.toNat_natCast, Int.reduceToNat, Int.reduceAdd, Int.reduceSub, Int.reduceMul, Int.reduceNeg, Nat.reduceAdd, Nat.reduceMul, Nat.add_zero, Nat.mul_zero, Nat.zero_add, am_zb0, am_zb1, ↓Bool.cond_decide, cond_true, cond_false, op2, Int.cast_ofNat_Int, or_self, if_false]
end EVX
