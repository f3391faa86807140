/-! ===== the sound stands: the reference ===== -/
theorem wrL {q off N : Nat} {F : Nat → tI → am_R} {V : Nat → Int32} {I0 : tI} (hs : ∀ j I, j < N → (∀ a b, ¬ (a = q ∧ off ≤ b ∧ b < off + N) → I a b = I0 a b) → F j I = F (j + 1) (am_up I q (off + j) (V j))) : ∃ I', F 0 I0 = F N I' ∧ (∀ k, k < N → I' q (off + k) = V k) ∧ ∀ a b, ¬ (a = q ∧ off ≤ b ∧ b < off + N) → I' a b = I0 a b := by
  have go : ∀ (m j : Nat) (I : tI), j + m = N → (∀ k, k < j → I q (off + k) = V k) → (∀ a b, ¬ (a = q ∧ off ≤ b ∧ b < off + N) → I a b = I0 a b) → ∃ I', F j I = F N I' ∧ (∀ k, k < N → I' q (off + k) = V k) ∧ ∀ a b, ¬ (a = q ∧ off ≤ b ∧ b < off + N) → I' a b = I0 a b := by
    intro m
    induction m with
    | zero =>
      intro j I hj hV hI
      obtain rfl : j = N := by omega
      exact ⟨I, rfl, hV, hI⟩
    | succ m ih =>
      intro j I hj hV hI
      obtain ⟨I', r1, r2, r3⟩ := ih (j + 1) (am_up I q (off + j) (V j)) (by omega) (fun k hk => by
        by_cases z : k = j
        · rw [z, am_up_e]
        · rw [am_up_o (by omega)]; exact hV k (by omega)) (fun a b e => by rw [am_up_o (by omega)]; exact hI a b e)
      exact ⟨I', by rw [hs j I (by omega) hI]; exact r1, r2, r3⟩
  exact go N 0 I0 (by omega) (fun k hk => absurd hk (Nat.not_lt_zero _)) (fun _ _ _ => rfl)
theorem wrJ {q off N : Nat} {F : Nat → tJ → am_R} {V : Nat → Int64} {I0 : tJ} (hs : ∀ j I, j < N → (∀ a b, ¬ (a = q ∧ off ≤ b ∧ b < off + N) → I a b = I0 a b) → F j I = F (j + 1) (am_up I q (off + j) (V j))) : ∃ I', F 0 I0 = F N I' ∧ (∀ k, k < N → I' q (off + k) = V k) ∧ ∀ a b, ¬ (a = q ∧ off ≤ b ∧ b < off + N) → I' a b = I0 a b := by
  have go : ∀ (m j : Nat) (I : tJ), j + m = N → (∀ k, k < j → I q (off + k) = V k) → (∀ a b, ¬ (a = q ∧ off ≤ b ∧ b < off + N) → I a b = I0 a b) → ∃ I', F j I = F N I' ∧ (∀ k, k < N → I' q (off + k) = V k) ∧ ∀ a b, ¬ (a = q ∧ off ≤ b ∧ b < off + N) → I' a b = I0 a b := by
    intro m
    induction m with
    | zero =>
      intro j I hj hV hI
      obtain rfl : j = N := by omega
      exact ⟨I, rfl, hV, hI⟩
    | succ m ih =>
      intro j I hj hV hI
      obtain ⟨I', r1, r2, r3⟩ := ih (j + 1) (am_up I q (off + j) (V j)) (by omega) (fun k hk => by
        by_cases z : k = j
        · rw [z, am_up_e]
        · rw [am_up_o (by omega)]; exact hV k (by omega)) (fun a b e => by rw [am_up_o (by omega)]; exact hI a b e)
      exact ⟨I', by rw [hs j I (by omega) hI]; exact r1, r2, r3⟩
  exact go N 0 I0 (by omega) (fun k hk => absurd hk (Nat.not_lt_zero _)) (fun _ _ _ => rfl)
def mEnd (X : sSt) (I : tI) (J : tJ) : Prop := (I 93 3 = am_i X.la ∧ I 93 4 = am_i X.wd ∧ I 93 5 = am_i X.sq ∧ I 94 3 = am_i X.bn.length ∧ I 94 4 = am_i X.rd.length ∧ I 94 5 = am_i X.nw ∧ I 64 50 = am_i 1 ∧ I 64 68 = am_i 0 ∧ I 64 63 = am_i 0) ∧
  (∀ (b : Nat) (x : sBo), X.bn[b]? = some x → J 95 (16 + b) = am_l (pk27 x.nm : Nat) ∧ I 96 (27 + 4 * b) = am_i x.sc.length ∧ I 103 (1 + 11 * b) = am_i x.mi ∧ I 103 (2 + 11 * b) = am_i x.ti ∧ I 103 (3 + 11 * b) = am_i x.ro ∧ ∀ (k v : Nat), x.sc[k]? = some v → I 103 (6 + 11 * b + k) = am_i v) ∧
  (I 103 0 = am_i 0 ∧ I 103 67 = am_i 0 ∧ ∀ b, b < 6 → I 103 (4 + 11 * b) = am_i 0 ∧ I 103 (5 + 11 * b) = am_i 0) ∧
  (∀ (r : Nat) (y : List Nat × Nat), X.rd[r]? = some y → J 95 (24 + r) = am_l (pk27 y.1 : Nat) ∧ I 98 (6 + r) = am_i y.2) ∧
  (∀ m v, m ≤ 60 → v < 8 → I 99 (488 + 8 * m + v) = am_i (X.wf m / 2 ^ v % 2 : Nat)) ∧ ∀ f, f < 3 → frM I f (fmX X f)
/-- 50 .. 101: the halves that stand -/
def tsI (I : tI) : tI := am_up (am_up (am_up (am_up (am_up (am_up (am_up (am_up (am_up (am_up (am_up (am_up I 93 3 (I 93 0)) 94 3 (I 94 0)) 100 3 (I 100 0)) 101 3 (I 101 0)) 93 4 (I 93 1)) 94 4 (I 94 1)) 100 4 (I 100 1)) 101 4 (I 101 1)) 93 5 (I 93 2)) 94 5 (I 94 2)) 100 5 (I 100 2)) 101 5 (I 101 2)
theorem tsI_o {I : tI} {q k : Nat} (h : ¬ ((q = 93 ∨ q = 94 ∨ q = 100 ∨ q = 101) ∧ 3 ≤ k ∧ k ≤ 5)) : tsI I q k = I q k := by
  unfold tsI
  rw [am_up_o (by omega), am_up_o (by omega), am_up_o (by omega), am_up_o (by omega), am_up_o (by omega), am_up_o (by omega), am_up_o (by omega), am_up_o (by omega), am_up_o (by omega), am_up_o (by omega), am_up_o (by omega), am_up_o (by omega)]
theorem tsI_v {I : tI} {q k : Nat} (h : q = 93 ∨ q = 94 ∨ q = 100 ∨ q = 101) (hk : k < 3) : tsI I q (3 + k) = I q k := by
  have hk3 : k = 0 ∨ k = 1 ∨ k = 2 := by omega
  unfold tsI
  rcases h with rfl | rfl | rfl | rfl <;> rcases hk3 with rfl | rfl | rfl
  all_goals simp (disch := omega) only [am_up_o, am_up_e]
section MSTD
variable {d : Nat} {J J' : tJ} {R : tR} {T : Nat → Nat} {n p i : Nat} {I I' : tI} {X : sSt}
/-- the boats' rows -/
theorem m_248 (hm : st_Rm R) (h6 : X.bn.length ≤ 6) {I0 : tI} (h94 : I0 94 0 = am_i X.bn.length) (hB : ∀ (b : Nat) (x : sBo), X.bn[b]? = some x → I0 96 (4 * b) = am_i x.mi ∧ I0 96 (4 * b + 1) = am_i x.ti ∧ I0 96 (4 * b + 2) = am_i x.ro ∧ I0 96 (4 * b + 3) = am_i x.sc.length ∧ x.sc.length ≤ 6 ∧ ∀ (k v : Nat), x.sc[k]? = some v → I0 97 (6 * b + k) = am_i v) : ∀ (m b : Nat) (I : tI), b + m = X.bn.length → (∀ q j, q ≠ 103 → I q j = I0 q j) → (I 103 0 = am_i 0 ∧ I 103 67 = am_i 0 ∧ ∀ b, b < 6 → I 103 (4 + 11 * b) = am_i 0 ∧ I 103 (5 + 11 * b) = am_i 0) → (∀ (c : Nat) (x : sBo), c < b → X.bn[c]? = some x → I 103 (1 + 11 * c) = am_i x.mi ∧ I 103 (2 + 11 * c) = am_i x.ti ∧ I 103 (3 + 11 * c) = am_i x.ro ∧ ∀ (k v : Nat), x.sc[k]? = some v → I 103 (6 + 11 * c + k) = am_i v) → ∃ I', am_E (d + 1) 190 248 [(0, .ref 64), (1, .int (am_i b))] [] (I, J, R, 138) = some (none, (am_up (am_up I' 64 68 (am_i 0)) 64 63 (am_i 0), J, R, 138)) ∧ (∀ q j, q ≠ 103 → I' q j = I0 q j) ∧ (I' 103 0 = am_i 0 ∧ I' 103 67 = am_i 0 ∧ ∀ b, b < 6 → I' 103 (4 + 11 * b) = am_i 0 ∧ I' 103 (5 + 11 * b) = am_i 0) ∧ ∀ (c : Nat) (x : sBo), X.bn[c]? = some x → I' 103 (1 + 11 * c) = am_i x.mi ∧ I' 103 (2 + 11 * c) = am_i x.ti ∧ I' 103 (3 + 11 * c) = am_i x.ro ∧ ∀ (k v : Nat), x.sc[k]? = some v → I' 103 (6 + 11 * c + k) = am_i v
  | 0, b, I, hb, hI, hz, hD => by
    obtain rfl : b = X.bn.length := by omega
    have e94 : I 94 0 = am_i X.bn.length := by rw [hI _ _ (by omega)]; exact h94
    refine ⟨I, ?_, hI, hz, fun c x hx => hD c x (List.getElem?_eq_some_iff.mp hx).1 hx⟩
    rw [sg_X12_stands_248]
    simp (disch := first | assumption | omega) only [rM hm, ly_csm, ly_cam, ly_cf, ly_kd, ly_ln, ↓Bool.cond_decide, cond_true, cond_false, ↓bI_p, ↓bV_p, ↓bL_p, bIJ_s, bVJ_s, bLJ_s, ↓am_let_s, Nat.blt, Nat.ble, Bool.and_true, Bool.true_and, Bool.and_self, Int.cast_ofNat_Int, am_i_add, am_i_sub, am_i_mul, am_ok_i, am_i_cl, n_lt, n_le, n_eq, n_lt0, n_le0, n_0lt, n_0le, n_eq0, ne_eq, ↓reduceIte, not_true_eq_false, not_false_eq_true, and_true, true_and, and_false, false_and, eq_T, eq_F, lt_T, lt_F, le_T, le_F, qn_T, qn_F, and_F, b01_T, b01_F, e_isIn, Int32.toInt_toInt64, am_i_toInt, am_l_toInt, Int.toNat_natCast, Int.reduceToNat, Int.reduceAdd, Int.reduceSub, Int.reduceMul, Int.reduceNeg, Nat.reduceAdd, Nat.reduceMul, Nat.add_zero, Nat.mul_zero, Nat.zero_add, am_zb0, am_zb1, e94]
  | m + 1, b, I, hb, hI, hz, hD => by
    have lt : b < X.bn.length := by omega
    obtain ⟨x, hx⟩ : ∃ x, X.bn[b]? = some x := ⟨_, List.getElem?_eq_getElem lt⟩
    obtain ⟨x1, x2, x3, x4, x5, x6⟩ := hB b x hx
    have e94 : I 94 0 = am_i X.bn.length := by rw [hI _ _ (by omega)]; exact h94
    obtain ⟨I1, a1, a2, a3⟩ := wrL (q := 103) (off := 1 + 11 * b) (N := 3) (V := fun j => I 96 (4 * b + j)) (I0 := I) (F := fun j I => am_E (d + 1) 190 260 [(0, .ref 64), (1, .int (am_i b)), (2, .int (am_i j))] [] (I, J, R, 138)) (fun j I2 hj he => by
      have n1 : (4 * (b : Int) + (j : Int)).toNat = 4 * b + j := by omega
      have n2 : (1 + 11 * (b : Int) + (j : Int)).toNat = 1 + 11 * b + j := by omega
      have e1 : I2 96 (4 * b + j) = I 96 (4 * b + j) := he _ _ (by omega)
      show am_E (d + 1) 190 260 [(0, .ref 64), (1, .int (am_i b)), (2, .int (am_i j))] [] (I2, J, R, 138) = _
      conv => lhs; rw [sg_X12_stands_260]
      simp (disch := first | assumption | omega) only [rM hm, ly_csm, ly_cam, ly_cf, ly_kd, ly_ln, ↓Bool.cond_decide, cond_true, cond_false, ↓bI_p, ↓bV_p, ↓bL_p, bIJ_s, bVJ_s, bLJ_s, ↓am_let_s, Nat.blt, Nat.ble, Bool.and_true, Bool.true_and, Bool.and_self, Int.cast_ofNat_Int, am_i_add, am_i_sub, am_i_mul, am_ok_i, am_i_cl, n_lt, n_le, n_eq, n_lt0, n_le0, n_0lt, n_0le, n_eq0, ne_eq, ↓reduceIte, not_true_eq_false, not_false_eq_true, and_true, true_and, and_false, false_and, eq_T, eq_F, lt_T, lt_F, le_T, le_F, qn_T, qn_F, and_F, b01_T, b01_F, e_isIn, Int32.toInt_toInt64, am_i_toInt, am_l_toInt, Int.toNat_natCast, Int.reduceToNat, Int.reduceAdd, Int.reduceSub, Int.reduceMul, Int.reduceNeg, Nat.reduceAdd, Nat.reduceMul, Nat.add_zero, Nat.mul_zero, Nat.zero_add, am_zb0, am_zb1, n1, n2, e1, am_i_s])
    have a1' : am_E (d + 1) 190 260 [(0, .ref 64), (1, .int (am_i b)), (2, .int (am_i 0))] [] (I, J, R, 138) = am_E (d + 1) 190 260 [(0, .ref 64), (1, .int (am_i b)), (2, .int (am_i 3))] [] (I1, J, R, 138) := a1
    have o1 : ∀ q j, q ≠ 103 → I1 q j = I0 q j := fun q j e => by rw [a3 q j (by omega), hI q j e]
    obtain ⟨I2, b1, b2, b3⟩ := wrL (q := 103) (off := 6 + 11 * b) (N := x.sc.length) (V := fun j => I1 97 (6 * b + j)) (I0 := I1) (F := fun j I => am_E (d + 1) 190 296 [(0, .ref 64), (1, .int (am_i b)), (2, .int (am_i j))] [] (I, J, R, 138)) (fun j I2 hj he => by
      have n1 : (6 * (b : Int) + (j : Int)).toNat = 6 * b + j := by omega
      have n2 : (6 + 11 * (b : Int) + (j : Int)).toNat = 6 + 11 * b + j := by omega
      have n3 : (4 * (b : Int) + 3).toNat = 4 * b + 3 := by omega
      have e1 : I2 97 (6 * b + j) = I1 97 (6 * b + j) := he _ _ (by omega)
      have e2 : I2 96 (4 * b + 3) = am_i x.sc.length := by rw [he _ _ (by omega), o1 _ _ (by omega)]; exact x4
      show am_E (d + 1) 190 296 [(0, .ref 64), (1, .int (am_i b)), (2, .int (am_i j))] [] (I2, J, R, 138) = _
      conv => lhs; rw [sg_X12_stands_296]
      simp (disch := first | assumption | omega) only [rM hm, ly_csm, ly_cam, ly_cf, ly_kd, ly_ln, ↓Bool.cond_decide, cond_true, cond_false, ↓bI_p, ↓bV_p, ↓bL_p, bIJ_s, bVJ_s, bLJ_s, ↓am_let_s, Nat.blt, Nat.ble, Bool.and_true, Bool.true_and, Bool.and_self, Int.cast_ofNat_Int, am_i_add, am_i_sub, am_i_mul, am_ok_i, am_i_cl, n_lt, n_le, n_eq, n_lt0, n_le0, n_0lt, n_0le, n_eq0, ne_eq, ↓reduceIte, not_true_eq_false, not_false_eq_true, and_true, true_and, and_false, false_and, eq_T, eq_F, lt_T, lt_F, le_T, le_F, qn_T, qn_F, and_F, b01_T, b01_F, e_isIn, Int32.toInt_toInt64, am_i_toInt, am_l_toInt, Int.toNat_natCast, Int.reduceToNat, Int.reduceAdd, Int.reduceSub, Int.reduceMul, Int.reduceNeg, Nat.reduceAdd, Nat.reduceMul, Nat.add_zero, Nat.mul_zero, Nat.zero_add, am_zb0, am_zb1, n1, n2, n3, e1, e2, am_i_s])
    have b1' : am_E (d + 1) 190 296 [(0, .ref 64), (1, .int (am_i b)), (2, .int (am_i 0))] [] (I1, J, R, 138) = am_E (d + 1) 190 296 [(0, .ref 64), (1, .int (am_i b)), (2, .int (am_i x.sc.length))] [] (I2, J, R, 138) := b1
    have o2 : ∀ q j, q ≠ 103 → I2 q j = I0 q j := fun q j e => by rw [b3 q j (by omega), o1 q j e]
    have o3 : ∀ j, ¬ (1 + 11 * b ≤ j ∧ j < 4 + 11 * b) → ¬ (6 + 11 * b ≤ j ∧ j < 12 + 11 * b) → I2 103 j = I 103 j := fun j e1 e2 => by rw [b3 _ _ (by omega), a3 _ _ (by omega)]
    obtain ⟨I', r1, r2, r3, r4⟩ := m_248 hm h6 h94 hB m (b + 1) I2 (by omega) o2 (by
      refine ⟨?_, ?_, fun c hc => ⟨?_, ?_⟩⟩
      · rw [o3 _ (by omega) (by omega)]; exact hz.1
      · rw [o3 _ (by omega) (by omega)]; exact hz.2.1
      · rw [o3 _ (by omega) (by omega)]; exact (hz.2.2 c hc).1
      · rw [o3 _ (by omega) (by omega)]; exact (hz.2.2 c hc).2) (fun c y hc hy => by
      by_cases z : c = b
      · subst z
        rw [hx] at hy
        have ey := Option.some.inj hy
        subst ey
        refine ⟨?_, ?_, ?_, fun k v hv => ?_⟩
        · rw [b3 _ _ (by omega)]
          have := a2 0 (by omega)
          rw [Nat.add_zero] at this
          rw [this]
          show I 96 (4 * c + 0) = _
          rw [Nat.add_zero, hI _ _ (by omega)]; exact x1
        · rw [b3 _ _ (by omega), show 2 + 11 * c = 1 + 11 * c + 1 by omega, a2 1 (by omega), hI _ _ (by omega)]; exact x2
        · rw [b3 _ _ (by omega), show 3 + 11 * c = 1 + 11 * c + 2 by omega, a2 2 (by omega), hI _ _ (by omega)]; exact x3
        · have hk := (List.getElem?_eq_some_iff.mp hv).1
          rw [b2 k hk, o1 _ _ (by omega)]
          exact x6 k v hv
      · obtain ⟨y1, y2, y3, y4⟩ := hD c y (by omega) hy
        obtain ⟨-, -, -, -, w5, -⟩ := hB c y hy
        refine ⟨by rw [o3 _ (by omega) (by omega)]; exact y1, by rw [o3 _ (by omega) (by omega)]; exact y2, by rw [o3 _ (by omega) (by omega)]; exact y3, fun k v hv => ?_⟩
        have hk := (List.getElem?_eq_some_iff.mp hv).1
        rw [o3 _ (by omega) (by omega)]
        exact y4 k v hv)
    refine ⟨I', ?_, r2, r3, r4⟩
    have n3 : (4 * (b : Int) + 3).toNat = 4 * b + 3 := by omega
    have e2 : I2 96 (4 * b + 3) = am_i x.sc.length := by rw [o2 _ _ (by omega)]; exact x4
    have s3 : am_E (d + 1) 190 260 [(0, .ref 64), (1, .int (am_i b)), (2, .int (am_i 3))] [] (I1, J, R, 138) = am_E (d + 1) 190 296 [(0, .ref 64), (1, .int (am_i b)), (2, .int (am_i 0))] [] (I1, J, R, 138) := by
      conv => lhs; rw [sg_X12_stands_260]
      simp (disch := first | assumption | omega) only [rM hm, ly_csm, ly_cam, ly_cf, ly_kd, ly_ln, ↓Bool.cond_decide, cond_true, cond_false, ↓bI_p, ↓bV_p, ↓bL_p, bIJ_s, bVJ_s, bLJ_s, ↓am_let_s, Nat.blt, Nat.ble, Bool.and_true, Bool.true_and, Bool.and_self, Int.cast_ofNat_Int, am_i_add, am_i_sub, am_i_mul, am_ok_i, am_i_cl, n_lt, n_le, n_eq, n_lt0, n_le0, n_0lt, n_0le, n_eq0, ne_eq, ↓reduceIte, not_true_eq_false, not_false_eq_true, and_true, true_and, and_false, false_and, eq_T, eq_F, lt_T, lt_F, le_T, le_F, qn_T, qn_F, and_F, b01_T, b01_F, e_isIn, Int32.toInt_toInt64, am_i_toInt, am_l_toInt, Int.toNat_natCast, Int.reduceToNat, Int.reduceAdd, Int.reduceSub, Int.reduceMul, Int.reduceNeg, Nat.reduceAdd, Nat.reduceMul, Nat.add_zero, Nat.mul_zero, Nat.zero_add, am_zb0, am_zb1]
    have s4 : am_E (d + 1) 190 296 [(0, .ref 64), (1, .int (am_i b)), (2, .int (am_i x.sc.length))] [] (I2, J, R, 138) = am_E (d + 1) 190 248 [(0, .ref 64), (1, .int (am_i (b + 1 : Nat)))] [] (I2, J, R, 138) := by
      conv => lhs; rw [sg_X12_stands_296]
      simp (disch := first | assumption | omega) only [rM hm, ly_csm, ly_cam, ly_cf, ly_kd, ly_ln, ↓Bool.cond_decide, cond_true, cond_false, ↓bI_p, ↓bV_p, ↓bL_p, bIJ_s, bVJ_s, bLJ_s, ↓am_let_s, Nat.blt, Nat.ble, Bool.and_true, Bool.true_and, Bool.and_self, Int.cast_ofNat_Int, am_i_add, am_i_sub, am_i_mul, am_ok_i, am_i_cl, n_lt, n_le, n_eq, n_lt0, n_le0, n_0lt, n_0le, n_eq0, ne_eq, ↓reduceIte, not_true_eq_false, not_false_eq_true, and_true, true_and, and_false, false_and, eq_T, eq_F, lt_T, lt_F, le_T, le_F, qn_T, qn_F, and_F, b01_T, b01_F, e_isIn, Int32.toInt_toInt64, am_i_toInt, am_l_toInt, Int.toNat_natCast, Int.reduceToNat, Int.reduceAdd, Int.reduceSub, Int.reduceMul, Int.reduceNeg, Nat.reduceAdd, Nat.reduceMul, Nat.add_zero, Nat.mul_zero, Nat.zero_add, am_zb0, am_zb1, n3, e2, am_i_s]
    have s0 : am_E (d + 1) 190 248 [(0, .ref 64), (1, .int (am_i b))] [] (I, J, R, 138) = am_E (d + 1) 190 260 [(0, .ref 64), (1, .int (am_i b)), (2, .int (am_i 0))] [] (I, J, R, 138) := by
      conv => lhs; rw [sg_X12_stands_248]
      simp (disch := first | assumption | omega) only [rM hm, ly_csm, ly_cam, ly_cf, ly_kd, ly_ln, ↓Bool.cond_decide, cond_true, cond_false, ↓bI_p, ↓bV_p, ↓bL_p, bIJ_s, bVJ_s, bLJ_s, ↓am_let_s, Nat.blt, Nat.ble, Bool.and_true, Bool.true_and, Bool.and_self, Int.cast_ofNat_Int, am_i_add, am_i_sub, am_i_mul, am_ok_i, am_i_cl, n_lt, n_le, n_eq, n_lt0, n_le0, n_0lt, n_0le, n_eq0, ne_eq, ↓reduceIte, not_true_eq_false, not_false_eq_true, and_true, true_and, and_false, false_and, eq_T, eq_F, lt_T, lt_F, le_T, le_F, qn_T, qn_F, and_F, b01_T, b01_F, e_isIn, Int32.toInt_toInt64, am_i_toInt, am_l_toInt, Int.toNat_natCast, Int.reduceToNat, Int.reduceAdd, Int.reduceSub, Int.reduceMul, Int.reduceNeg, Nat.reduceAdd, Nat.reduceMul, Nat.add_zero, Nat.mul_zero, Nat.zero_add, am_zb0, am_zb1, e94]
    rw [s0, a1', s3, b1', s4]
    exact r1
theorem m_stands (hm : st_Rm R) (hX : mCh X I J) (hO : sOK n p i X) (hn : n ≤ 1600) : ∃ I' J', am_E (d + 1) 190 0 [(0, .ref 64)] [] (I, J, R, 138) = some (none, (I', J', R, 138)) ∧ mEnd X I' J' ∧ (∀ q j, ¬ (93 ≤ q ∧ q ≤ 103) → ¬ (q = 64 ∧ (j = 50 ∨ j = 63 ∨ j = 68)) → I' q j = I q j) ∧ ∀ q j, q ≠ 95 → J' q j = J q j := by
  have b6 := hO.1.2.2.2.2.2.1
  have r6 := hO.1.2.2.2.2.2.2.1
  have szn := hO.1.2.2.2.2.2.2.2
  obtain ⟨⟨h0, h1, h2, h3, h4, h5⟩, hb, hr, hw, hf, h48⟩ := hX
  obtain ⟨K1, hK1⟩ : ∃ K1, K1 = tsI (am_up I 64 50 (am_i 1)) := ⟨_, rfl⟩
  have k1 : ∀ q k, ¬ ((q = 93 ∨ q = 94 ∨ q = 100 ∨ q = 101) ∧ 3 ≤ k ∧ k ≤ 5) → ¬ (q = 64 ∧ k = 50) → K1 q k = I q k := fun q k e1 e2 => by rw [hK1, tsI_o e1, am_up_o e2]
  have k1v : ∀ q k, (q = 93 ∨ q = 94 ∨ q = 100 ∨ q = 101) → k < 3 → K1 q (3 + k) = I q k := fun q k e1 e2 => by rw [hK1, tsI_v e1 e2, am_up_o (by omega)]
  have s0 : am_E (d + 1) 190 0 [(0, .ref 64)] [] (I, J, R, 138) = am_E (d + 1) 190 76 [(0, .ref 64), (1, .int (am_i 0))] [] (K1, J, R, 138) := by
    rw [sg_X12_stands_0]
    simp (disch := first | assumption | omega) only [rM hm, ly_csm, ly_cam, ly_cf, ly_kd, ly_ln, ↓Bool.cond_decide, cond_true, cond_false, ↓bI_p, ↓bV_p, ↓bL_p, bIJ_s, bVJ_s, bLJ_s, ↓am_let_s, Nat.blt, Nat.ble, Bool.and_true, Bool.true_and, Bool.and_self, Int.cast_ofNat_Int, am_i_add, am_i_sub, am_i_mul, am_ok_i, am_i_cl, n_lt, n_le, n_eq, n_lt0, n_le0, n_0lt, n_0le, n_eq0, ne_eq, ↓reduceIte, not_true_eq_false, not_false_eq_true, and_true, true_and, and_false, false_and, eq_T, eq_F, lt_T, lt_F, le_T, le_F, qn_T, qn_F, and_F, b01_T, b01_F, e_isIn, Int32.toInt_toInt64, am_i_toInt, am_l_toInt, Int.toNat_natCast, Int.reduceToNat, Int.reduceAdd, Int.reduceSub, Int.reduceMul, Int.reduceNeg, Nat.reduceAdd, Nat.reduceMul, Nat.add_zero, Nat.mul_zero, Nat.zero_add, am_zb0, am_zb1]
    rw [sg_X12_stands_7]
    simp (disch := first | assumption | omega) only [rM hm, ly_csm, ly_cam, ly_cf, ly_kd, ly_ln, ↓Bool.cond_decide, cond_true, cond_false, ↓bI_p, ↓bV_p, ↓bL_p, bIJ_s, bVJ_s, bLJ_s, ↓am_let_s, Nat.blt, Nat.ble, Bool.and_true, Bool.true_and, Bool.and_self, Int.cast_ofNat_Int, am_i_add, am_i_sub, am_i_mul, am_ok_i, am_i_cl, n_lt, n_le, n_eq, n_lt0, n_le0, n_0lt, n_0le, n_eq0, ne_eq, ↓reduceIte, not_true_eq_false, not_false_eq_true, and_true, true_and, and_false, false_and, eq_T, eq_F, lt_T, lt_F, le_T, le_F, qn_T, qn_F, and_F, b01_T, b01_F, e_isIn, Int32.toInt_toInt64, am_i_toInt, am_l_toInt, Int.toNat_natCast, Int.reduceToNat, Int.reduceAdd, Int.reduceSub, Int.reduceMul, Int.reduceNeg, Nat.reduceAdd, Nat.reduceMul, Nat.add_zero, Nat.mul_zero, Nat.zero_add, am_zb0, am_zb1, am_up_o]
    rw [sg_X12_stands_7]
    simp (disch := first | assumption | omega) only [rM hm, ly_csm, ly_cam, ly_cf, ly_kd, ly_ln, ↓Bool.cond_decide, cond_true, cond_false, ↓bI_p, ↓bV_p, ↓bL_p, bIJ_s, bVJ_s, bLJ_s, ↓am_let_s, Nat.blt, Nat.ble, Bool.and_true, Bool.true_and, Bool.and_self, Int.cast_ofNat_Int, am_i_add, am_i_sub, am_i_mul, am_ok_i, am_i_cl, n_lt, n_le, n_eq, n_lt0, n_le0, n_0lt, n_0le, n_eq0, ne_eq, ↓reduceIte, not_true_eq_false, not_false_eq_true, and_true, true_and, and_false, false_and, eq_T, eq_F, lt_T, lt_F, le_T, le_F, qn_T, qn_F, and_F, b01_T, b01_F, e_isIn, Int32.toInt_toInt64, am_i_toInt, am_l_toInt, Int.toNat_natCast, Int.reduceToNat, Int.reduceAdd, Int.reduceSub, Int.reduceMul, Int.reduceNeg, Nat.reduceAdd, Nat.reduceMul, Nat.add_zero, Nat.mul_zero, Nat.zero_add, am_zb0, am_zb1, am_up_o]
    rw [sg_X12_stands_7]
    simp (disch := first | assumption | omega) only [rM hm, ly_csm, ly_cam, ly_cf, ly_kd, ly_ln, ↓Bool.cond_decide, cond_true, cond_false, ↓bI_p, ↓bV_p, ↓bL_p, bIJ_s, bVJ_s, bLJ_s, ↓am_let_s, Nat.blt, Nat.ble, Bool.and_true, Bool.true_and, Bool.and_self, Int.cast_ofNat_Int, am_i_add, am_i_sub, am_i_mul, am_ok_i, am_i_cl, n_lt, n_le, n_eq, n_lt0, n_le0, n_0lt, n_0le, n_eq0, ne_eq, ↓reduceIte, not_true_eq_false, not_false_eq_true, and_true, true_and, and_false, false_and, eq_T, eq_F, lt_T, lt_F, le_T, le_F, qn_T, qn_F, and_F, b01_T, b01_F, e_isIn, Int32.toInt_toInt64, am_i_toInt, am_l_toInt, Int.toNat_natCast, Int.reduceToNat, Int.reduceAdd, Int.reduceSub, Int.reduceMul, Int.reduceNeg, Nat.reduceAdd, Nat.reduceMul, Nat.add_zero, Nat.mul_zero, Nat.zero_add, am_zb0, am_zb1, am_up_o]
    rw [sg_X12_stands_7]
    simp (disch := first | assumption | omega) only [rM hm, ly_csm, ly_cam, ly_cf, ly_kd, ly_ln, ↓Bool.cond_decide, cond_true, cond_false, ↓bI_p, ↓bV_p, ↓bL_p, bIJ_s, bVJ_s, bLJ_s, ↓am_let_s, Nat.blt, Nat.ble, Bool.and_true, Bool.true_and, Bool.and_self, Int.cast_ofNat_Int, am_i_add, am_i_sub, am_i_mul, am_ok_i, am_i_cl, n_lt, n_le, n_eq, n_lt0, n_le0, n_0lt, n_0le, n_eq0, ne_eq, ↓reduceIte, not_true_eq_false, not_false_eq_true, and_true, true_and, and_false, false_and, eq_T, eq_F, lt_T, lt_F, le_T, le_F, qn_T, qn_F, and_F, b01_T, b01_F, e_isIn, Int32.toInt_toInt64, am_i_toInt, am_l_toInt, Int.toNat_natCast, Int.reduceToNat, Int.reduceAdd, Int.reduceSub, Int.reduceMul, Int.reduceNeg, Nat.reduceAdd, Nat.reduceMul, Nat.add_zero, Nat.mul_zero, Nat.zero_add, am_zb0, am_zb1, am_up_o]
    rw [hK1]
    unfold tsI
    simp (disch := first | assumption | omega) only [am_up_o]
  obtain ⟨J1, a1, a2, a3⟩ := wrJ (q := 95) (off := 16) (N := 16) (V := fun j => J 95 j) (I0 := J) (F := fun j J => am_E (d + 1) 190 76 [(0, .ref 64), (1, .int (am_i j))] [] (K1, J, R, 138)) (fun j J2 hj he => by
    have n1 : (16 + (j : Int)).toNat = 16 + j := by omega
    have e1 : J2 95 j = J 95 j := he _ _ (by omega)
    show am_E (d + 1) 190 76 [(0, .ref 64), (1, .int (am_i j))] [] (K1, J2, R, 138) = _
    conv => lhs; rw [sg_X12_stands_76]
    simp (disch := first | assumption | omega) only [rM hm, ly_csm, ly_cam, ly_cf, ly_kd, ly_ln, ↓Bool.cond_decide, cond_true, cond_false, ↓bI_p, ↓bV_p, ↓bL_p, bIJ_s, bVJ_s, bLJ_s, ↓am_let_s, Nat.blt, Nat.ble, Bool.and_true, Bool.true_and, Bool.and_self, Int.cast_ofNat_Int, am_i_add, am_i_sub, am_i_mul, am_ok_i, am_i_cl, n_lt, n_le, n_eq, n_lt0, n_le0, n_0lt, n_0le, n_eq0, ne_eq, ↓reduceIte, not_true_eq_false, not_false_eq_true, and_true, true_and, and_false, false_and, eq_T, eq_F, lt_T, lt_F, le_T, le_F, qn_T, qn_F, and_F, b01_T, b01_F, e_isIn, Int32.toInt_toInt64, am_i_toInt, am_l_toInt, Int.toNat_natCast, Int.reduceToNat, Int.reduceAdd, Int.reduceSub, Int.reduceMul, Int.reduceNeg, Nat.reduceAdd, Nat.reduceMul, Nat.add_zero, Nat.mul_zero, Nat.zero_add, am_zb0, am_zb1, n1, e1, am_i_s])
  have a1' : am_E (d + 1) 190 76 [(0, .ref 64), (1, .int (am_i 0))] [] (K1, J, R, 138) = am_E (d + 1) 190 76 [(0, .ref 64), (1, .int (am_i 16))] [] (K1, J1, R, 138) := a1
  have t1 : am_E (d + 1) 190 76 [(0, .ref 64), (1, .int (am_i 16))] [] (K1, J1, R, 138) = am_E (d + 1) 190 105 [(0, .ref 64), (1, .int (am_i 0))] [] (K1, J1, R, 138) := by
    conv => lhs; rw [sg_X12_stands_76]
    simp (disch := first | assumption | omega) only [rM hm, ly_csm, ly_cam, ly_cf, ly_kd, ly_ln, ↓Bool.cond_decide, cond_true, cond_false, ↓bI_p, ↓bV_p, ↓bL_p, bIJ_s, bVJ_s, bLJ_s, ↓am_let_s, Nat.blt, Nat.ble, Bool.and_true, Bool.true_and, Bool.and_self, Int.cast_ofNat_Int, am_i_add, am_i_sub, am_i_mul, am_ok_i, am_i_cl, n_lt, n_le, n_eq, n_lt0, n_le0, n_0lt, n_0le, n_eq0, ne_eq, ↓reduceIte, not_true_eq_false, not_false_eq_true, and_true, true_and, and_false, false_and, eq_T, eq_F, lt_T, lt_F, le_T, le_F, qn_T, qn_F, and_F, b01_T, b01_F, e_isIn, Int32.toInt_toInt64, am_i_toInt, am_l_toInt, Int.toNat_natCast, Int.reduceToNat, Int.reduceAdd, Int.reduceSub, Int.reduceMul, Int.reduceNeg, Nat.reduceAdd, Nat.reduceMul, Nat.add_zero, Nat.mul_zero, Nat.zero_add, am_zb0, am_zb1]
  obtain ⟨K2, c1, c2, c3⟩ := wrL (q := 96) (off := 24) (N := 24) (V := fun j => K1 96 j) (I0 := K1) (F := fun j I => am_E (d + 1) 190 105 [(0, .ref 64), (1, .int (am_i j))] [] (I, J1, R, 138)) (fun j I2 hj he => by
    have n1 : (24 + (j : Int)).toNat = 24 + j := by omega
    have e1 : I2 96 j = K1 96 j := he _ _ (by omega)
    show am_E (d + 1) 190 105 [(0, .ref 64), (1, .int (am_i j))] [] (I2, J1, R, 138) = _
    conv => lhs; rw [sg_X12_stands_105]
    simp (disch := first | assumption | omega) only [rM hm, ly_csm, ly_cam, ly_cf, ly_kd, ly_ln, ↓Bool.cond_decide, cond_true, cond_false, ↓bI_p, ↓bV_p, ↓bL_p, bIJ_s, bVJ_s, bLJ_s, ↓am_let_s, Nat.blt, Nat.ble, Bool.and_true, Bool.true_and, Bool.and_self, Int.cast_ofNat_Int, am_i_add, am_i_sub, am_i_mul, am_ok_i, am_i_cl, n_lt, n_le, n_eq, n_lt0, n_le0, n_0lt, n_0le, n_eq0, ne_eq, ↓reduceIte, not_true_eq_false, not_false_eq_true, and_true, true_and, and_false, false_and, eq_T, eq_F, lt_T, lt_F, le_T, le_F, qn_T, qn_F, and_F, b01_T, b01_F, e_isIn, Int32.toInt_toInt64, am_i_toInt, am_l_toInt, Int.toNat_natCast, Int.reduceToNat, Int.reduceAdd, Int.reduceSub, Int.reduceMul, Int.reduceNeg, Nat.reduceAdd, Nat.reduceMul, Nat.add_zero, Nat.mul_zero, Nat.zero_add, am_zb0, am_zb1, n1, e1, am_i_s])
  have c1' : am_E (d + 1) 190 105 [(0, .ref 64), (1, .int (am_i 0))] [] (K1, J1, R, 138) = am_E (d + 1) 190 105 [(0, .ref 64), (1, .int (am_i 24))] [] (K2, J1, R, 138) := c1
  have t2 : am_E (d + 1) 190 105 [(0, .ref 64), (1, .int (am_i 24))] [] (K2, J1, R, 138) = am_E (d + 1) 190 134 [(0, .ref 64), (1, .int (am_i 0))] [] (K2, J1, R, 138) := by
    conv => lhs; rw [sg_X12_stands_105]
    simp (disch := first | assumption | omega) only [rM hm, ly_csm, ly_cam, ly_cf, ly_kd, ly_ln, ↓Bool.cond_decide, cond_true, cond_false, ↓bI_p, ↓bV_p, ↓bL_p, bIJ_s, bVJ_s, bLJ_s, ↓am_let_s, Nat.blt, Nat.ble, Bool.and_true, Bool.true_and, Bool.and_self, Int.cast_ofNat_Int, am_i_add, am_i_sub, am_i_mul, am_ok_i, am_i_cl, n_lt, n_le, n_eq, n_lt0, n_le0, n_0lt, n_0le, n_eq0, ne_eq, ↓reduceIte, not_true_eq_false, not_false_eq_true, and_true, true_and, and_false, false_and, eq_T, eq_F, lt_T, lt_F, le_T, le_F, qn_T, qn_F, and_F, b01_T, b01_F, e_isIn, Int32.toInt_toInt64, am_i_toInt, am_l_toInt, Int.toNat_natCast, Int.reduceToNat, Int.reduceAdd, Int.reduceSub, Int.reduceMul, Int.reduceNeg, Nat.reduceAdd, Nat.reduceMul, Nat.add_zero, Nat.mul_zero, Nat.zero_add, am_zb0, am_zb1]
  obtain ⟨K3, d1, d2, d3⟩ := wrL (q := 98) (off := 6) (N := 6) (V := fun j => K2 98 j) (I0 := K2) (F := fun j I => am_E (d + 1) 190 134 [(0, .ref 64), (1, .int (am_i j))] [] (I, J1, R, 138)) (fun j I2 hj he => by
    have n1 : (6 + (j : Int)).toNat = 6 + j := by omega
    have e1 : I2 98 j = K2 98 j := he _ _ (by omega)
    show am_E (d + 1) 190 134 [(0, .ref 64), (1, .int (am_i j))] [] (I2, J1, R, 138) = _
    conv => lhs; rw [sg_X12_stands_134]
    simp (disch := first | assumption | omega) only [rM hm, ly_csm, ly_cam, ly_cf, ly_kd, ly_ln, ↓Bool.cond_decide, cond_true, cond_false, ↓bI_p, ↓bV_p, ↓bL_p, bIJ_s, bVJ_s, bLJ_s, ↓am_let_s, Nat.blt, Nat.ble, Bool.and_true, Bool.true_and, Bool.and_self, Int.cast_ofNat_Int, am_i_add, am_i_sub, am_i_mul, am_ok_i, am_i_cl, n_lt, n_le, n_eq, n_lt0, n_le0, n_0lt, n_0le, n_eq0, ne_eq, ↓reduceIte, not_true_eq_false, not_false_eq_true, and_true, true_and, and_false, false_and, eq_T, eq_F, lt_T, lt_F, le_T, le_F, qn_T, qn_F, and_F, b01_T, b01_F, e_isIn, Int32.toInt_toInt64, am_i_toInt, am_l_toInt, Int.toNat_natCast, Int.reduceToNat, Int.reduceAdd, Int.reduceSub, Int.reduceMul, Int.reduceNeg, Nat.reduceAdd, Nat.reduceMul, Nat.add_zero, Nat.mul_zero, Nat.zero_add, am_zb0, am_zb1, n1, e1, am_i_s])
  have d1' : am_E (d + 1) 190 134 [(0, .ref 64), (1, .int (am_i 0))] [] (K2, J1, R, 138) = am_E (d + 1) 190 134 [(0, .ref 64), (1, .int (am_i 6))] [] (K3, J1, R, 138) := d1
  have t3 : am_E (d + 1) 190 134 [(0, .ref 64), (1, .int (am_i 6))] [] (K3, J1, R, 138) = am_E (d + 1) 190 163 [(0, .ref 64), (1, .int (am_i 0))] [] (K3, J1, R, 138) := by
    conv => lhs; rw [sg_X12_stands_134]
    simp (disch := first | assumption | omega) only [rM hm, ly_csm, ly_cam, ly_cf, ly_kd, ly_ln, ↓Bool.cond_decide, cond_true, cond_false, ↓bI_p, ↓bV_p, ↓bL_p, bIJ_s, bVJ_s, bLJ_s, ↓am_let_s, Nat.blt, Nat.ble, Bool.and_true, Bool.true_and, Bool.and_self, Int.cast_ofNat_Int, am_i_add, am_i_sub, am_i_mul, am_ok_i, am_i_cl, n_lt, n_le, n_eq, n_lt0, n_le0, n_0lt, n_0le, n_eq0, ne_eq, ↓reduceIte, not_true_eq_false, not_false_eq_true, and_true, true_and, and_false, false_and, eq_T, eq_F, lt_T, lt_F, le_T, le_F, qn_T, qn_F, and_F, b01_T, b01_F, e_isIn, Int32.toInt_toInt64, am_i_toInt, am_l_toInt, Int.toNat_natCast, Int.reduceToNat, Int.reduceAdd, Int.reduceSub, Int.reduceMul, Int.reduceNeg, Nat.reduceAdd, Nat.reduceMul, Nat.add_zero, Nat.mul_zero, Nat.zero_add, am_zb0, am_zb1]
  have z99 : ∀ j, j < 488 → K3 99 j = am_i (X.wf (j / 8) / 2 ^ (j % 8) % 2 : Nat) := fun j hj => by
    rw [d3 _ _ (by omega), c3 _ _ (by omega), k1 _ _ (by omega) (by omega)]
    have := hw (j / 8) (j % 8) (by omega) (by omega)
    rw [show 8 * (j / 8) + j % 8 = j by omega] at this
    exact this
  obtain ⟨K4, e1, e2, e3⟩ := wrL (q := 99) (off := 488) (N := 488) (V := fun j => K3 99 j) (I0 := K3) (F := fun j I => am_E (d + 1) 190 163 [(0, .ref 64), (1, .int (am_i j))] [] (I, J1, R, 138)) (fun j I2 hj he => by
    have n1 : (488 + (j : Int)).toNat = 488 + j := by omega
    have e1 : I2 99 j = K3 99 j := he _ _ (by omega)
    have zb : am_zb (K3 99 j) = true := by
      rw [z99 j hj]
      have : X.wf (j / 8) / 2 ^ (j % 8) % 2 < 2 := Nat.mod_lt _ (by decide)
      have : X.wf (j / 8) / 2 ^ (j % 8) % 2 = 0 ∨ X.wf (j / 8) / 2 ^ (j % 8) % 2 = 1 := by omega
      rcases this with c | c
      · rw [c]; exact am_zb0
      · rw [c]; exact am_zb1
    show am_E (d + 1) 190 163 [(0, .ref 64), (1, .int (am_i j))] [] (I2, J1, R, 138) = _
    conv => lhs; rw [sg_X12_stands_163]
    simp (disch := first | assumption | omega) only [rM hm, ly_csm, ly_cam, ly_cf, ly_kd, ly_ln, ↓Bool.cond_decide, cond_true, cond_false, ↓bI_p, ↓bV_p, ↓bL_p, bIJ_s, bVJ_s, bLJ_s, ↓am_let_s, Nat.blt, Nat.ble, Bool.and_true, Bool.true_and, Bool.and_self, Int.cast_ofNat_Int, am_i_add, am_i_sub, am_i_mul, am_ok_i, am_i_cl, n_lt, n_le, n_eq, n_lt0, n_le0, n_0lt, n_0le, n_eq0, ne_eq, ↓reduceIte, not_true_eq_false, not_false_eq_true, and_true, true_and, and_false, false_and, eq_T, eq_F, lt_T, lt_F, le_T, le_F, qn_T, qn_F, and_F, b01_T, b01_F, e_isIn, Int32.toInt_toInt64, am_i_toInt, am_l_toInt, Int.toNat_natCast, Int.reduceToNat, Int.reduceAdd, Int.reduceSub, Int.reduceMul, Int.reduceNeg, Nat.reduceAdd, Nat.reduceMul, Nat.add_zero, Nat.mul_zero, Nat.zero_add, am_zb0, am_zb1, n1, e1, zb, am_i_s])
  have e1' : am_E (d + 1) 190 163 [(0, .ref 64), (1, .int (am_i 0))] [] (K3, J1, R, 138) = am_E (d + 1) 190 163 [(0, .ref 64), (1, .int (am_i 488))] [] (K4, J1, R, 138) := e1
  have t4 : am_E (d + 1) 190 163 [(0, .ref 64), (1, .int (am_i 488))] [] (K4, J1, R, 138) = am_E (d + 1) 190 194 [(0, .ref 64), (1, .int (am_i 0))] [] (K4, J1, R, 138) := by
    conv => lhs; rw [sg_X12_stands_163]
    simp (disch := first | assumption | omega) only [rM hm, ly_csm, ly_cam, ly_cf, ly_kd, ly_ln, ↓Bool.cond_decide, cond_true, cond_false, ↓bI_p, ↓bV_p, ↓bL_p, bIJ_s, bVJ_s, bLJ_s, ↓am_let_s, Nat.blt, Nat.ble, Bool.and_true, Bool.true_and, Bool.and_self, Int.cast_ofNat_Int, am_i_add, am_i_sub, am_i_mul, am_ok_i, am_i_cl, n_lt, n_le, n_eq, n_lt0, n_le0, n_0lt, n_0le, n_eq0, ne_eq, ↓reduceIte, not_true_eq_false, not_false_eq_true, and_true, true_and, and_false, false_and, eq_T, eq_F, lt_T, lt_F, le_T, le_F, qn_T, qn_F, and_F, b01_T, b01_F, e_isIn, Int32.toInt_toInt64, am_i_toInt, am_l_toInt, Int.toNat_natCast, Int.reduceToNat, Int.reduceAdd, Int.reduceSub, Int.reduceMul, Int.reduceNeg, Nat.reduceAdd, Nat.reduceMul, Nat.add_zero, Nat.mul_zero, Nat.zero_add, am_zb0, am_zb1]
  have k4 : ∀ q k, ¬ ((q = 93 ∨ q = 94 ∨ q = 100 ∨ q = 101) ∧ 3 ≤ k ∧ k ≤ 5) → ¬ (q = 64 ∧ k = 50) → q ≠ 96 → q ≠ 98 → q ≠ 99 → K4 q k = I q k := fun q k x1 x2 x3 x4 x5 => by rw [e3 _ _ (by omega), d3 _ _ (by omega), c3 _ _ (by omega), k1 q k x1 x2]
  have s48 : K4 64 48 = am_i X.sz := by rw [k4 _ _ (by omega) (by omega) (by omega) (by omega) (by omega)]; exact h48
  obtain ⟨K5, f1, f2, f3⟩ := wrL (q := 102) (off := 1600) (N := X.sz) (V := fun j => K4 102 j) (I0 := K4) (F := fun j I => am_E (d + 1) 190 194 [(0, .ref 64), (1, .int (am_i j))] [] (I, J1, R, 138)) (fun j I2 hj he => by
    have n1 : (1600 + (j : Int)).toNat = 1600 + j := by omega
    have e1 : I2 102 j = K4 102 j := he _ _ (by omega)
    have e48 : I2 64 48 = am_i X.sz := by rw [he _ _ (by omega)]; exact s48
    show am_E (d + 1) 190 194 [(0, .ref 64), (1, .int (am_i j))] [] (I2, J1, R, 138) = _
    conv => lhs; rw [sg_X12_stands_194]
    simp (disch := first | assumption | omega) only [rM hm, ly_csm, ly_cam, ly_cf, ly_kd, ly_ln, ↓Bool.cond_decide, cond_true, cond_false, ↓bI_p, ↓bV_p, ↓bL_p, bIJ_s, bVJ_s, bLJ_s, ↓am_let_s, Nat.blt, Nat.ble, Bool.and_true, Bool.true_and, Bool.and_self, Int.cast_ofNat_Int, am_i_add, am_i_sub, am_i_mul, am_ok_i, am_i_cl, n_lt, n_le, n_eq, n_lt0, n_le0, n_0lt, n_0le, n_eq0, ne_eq, ↓reduceIte, not_true_eq_false, not_false_eq_true, and_true, true_and, and_false, false_and, eq_T, eq_F, lt_T, lt_F, le_T, le_F, qn_T, qn_F, and_F, b01_T, b01_F, e_isIn, Int32.toInt_toInt64, am_i_toInt, am_l_toInt, Int.toNat_natCast, Int.reduceToNat, Int.reduceAdd, Int.reduceSub, Int.reduceMul, Int.reduceNeg, Nat.reduceAdd, Nat.reduceMul, Nat.add_zero, Nat.mul_zero, Nat.zero_add, am_zb0, am_zb1, e48, n1, e1, am_i_s])
  have f1' : am_E (d + 1) 190 194 [(0, .ref 64), (1, .int (am_i 0))] [] (K4, J1, R, 138) = am_E (d + 1) 190 194 [(0, .ref 64), (1, .int (am_i X.sz))] [] (K5, J1, R, 138) := f1
  have s48' : K5 64 48 = am_i X.sz := by rw [f3 _ _ (by omega)]; exact s48
  have t5 : am_E (d + 1) 190 194 [(0, .ref 64), (1, .int (am_i X.sz))] [] (K5, J1, R, 138) = am_E (d + 1) 190 226 [(0, .ref 64), (1, .int (am_i 0))] [] (K5, J1, R, 138) := by
    conv => lhs; rw [sg_X12_stands_194]
    simp (disch := first | assumption | omega) only [rM hm, ly_csm, ly_cam, ly_cf, ly_kd, ly_ln, ↓Bool.cond_decide, cond_true, cond_false, ↓bI_p, ↓bV_p, ↓bL_p, bIJ_s, bVJ_s, bLJ_s, ↓am_let_s, Nat.blt, Nat.ble, Bool.and_true, Bool.true_and, Bool.and_self, Int.cast_ofNat_Int, am_i_add, am_i_sub, am_i_mul, am_ok_i, am_i_cl, n_lt, n_le, n_eq, n_lt0, n_le0, n_0lt, n_0le, n_eq0, ne_eq, ↓reduceIte, not_true_eq_false, not_false_eq_true, and_true, true_and, and_false, false_and, eq_T, eq_F, lt_T, lt_F, le_T, le_F, qn_T, qn_F, and_F, b01_T, b01_F, e_isIn, Int32.toInt_toInt64, am_i_toInt, am_l_toInt, Int.toNat_natCast, Int.reduceToNat, Int.reduceAdd, Int.reduceSub, Int.reduceMul, Int.reduceNeg, Nat.reduceAdd, Nat.reduceMul, Nat.add_zero, Nat.mul_zero, Nat.zero_add, am_zb0, am_zb1, s48']
  obtain ⟨K6, g1, g2, g3⟩ := wrL (q := 103) (off := 0) (N := 188) (V := fun _ => am_i 0) (I0 := K5) (F := fun j I => am_E (d + 1) 190 226 [(0, .ref 64), (1, .int (am_i j))] [] (I, J1, R, 138)) (fun j I2 hj he => by
    show am_E (d + 1) 190 226 [(0, .ref 64), (1, .int (am_i j))] [] (I2, J1, R, 138) = _
    conv => lhs; rw [sg_X12_stands_226]
    simp (disch := first | assumption | omega) only [rM hm, ly_csm, ly_cam, ly_cf, ly_kd, ly_ln, ↓Bool.cond_decide, cond_true, cond_false, ↓bI_p, ↓bV_p, ↓bL_p, bIJ_s, bVJ_s, bLJ_s, ↓am_let_s, Nat.blt, Nat.ble, Bool.and_true, Bool.true_and, Bool.and_self, Int.cast_ofNat_Int, am_i_add, am_i_sub, am_i_mul, am_ok_i, am_i_cl, n_lt, n_le, n_eq, n_lt0, n_le0, n_0lt, n_0le, n_eq0, ne_eq, ↓reduceIte, not_true_eq_false, not_false_eq_true, and_true, true_and, and_false, false_and, eq_T, eq_F, lt_T, lt_F, le_T, le_F, qn_T, qn_F, and_F, b01_T, b01_F, e_isIn, Int32.toInt_toInt64, am_i_toInt, am_l_toInt, Int.toNat_natCast, Int.reduceToNat, Int.reduceAdd, Int.reduceSub, Int.reduceMul, Int.reduceNeg, Nat.reduceAdd, Nat.reduceMul, Nat.add_zero, Nat.mul_zero, Nat.zero_add, am_zb0, am_zb1, am_i_s])
  have g1' : am_E (d + 1) 190 226 [(0, .ref 64), (1, .int (am_i 0))] [] (K5, J1, R, 138) = am_E (d + 1) 190 226 [(0, .ref 64), (1, .int (am_i 188))] [] (K6, J1, R, 138) := g1
  have t6 : am_E (d + 1) 190 226 [(0, .ref 64), (1, .int (am_i 188))] [] (K6, J1, R, 138) = am_E (d + 1) 190 248 [(0, .ref 64), (1, .int (am_i 0))] [] (K6, J1, R, 138) := by
    conv => lhs; rw [sg_X12_stands_226]
    simp (disch := first | assumption | omega) only [rM hm, ly_csm, ly_cam, ly_cf, ly_kd, ly_ln, ↓Bool.cond_decide, cond_true, cond_false, ↓bI_p, ↓bV_p, ↓bL_p, bIJ_s, bVJ_s, bLJ_s, ↓am_let_s, Nat.blt, Nat.ble, Bool.and_true, Bool.true_and, Bool.and_self, Int.cast_ofNat_Int, am_i_add, am_i_sub, am_i_mul, am_ok_i, am_i_cl, n_lt, n_le, n_eq, n_lt0, n_le0, n_0lt, n_0le, n_eq0, ne_eq, ↓reduceIte, not_true_eq_false, not_false_eq_true, and_true, true_and, and_false, false_and, eq_T, eq_F, lt_T, lt_F, le_T, le_F, qn_T, qn_F, and_F, b01_T, b01_F, e_isIn, Int32.toInt_toInt64, am_i_toInt, am_l_toInt, Int.toNat_natCast, Int.reduceToNat, Int.reduceAdd, Int.reduceSub, Int.reduceMul, Int.reduceNeg, Nat.reduceAdd, Nat.reduceMul, Nat.add_zero, Nat.mul_zero, Nat.zero_add, am_zb0, am_zb1]
  have g2' : ∀ k, k < 188 → K6 103 k = am_i 0 := fun k hk => by have := g2 k hk; rw [Nat.zero_add] at this; exact this
  have k6 : ∀ q k, q ≠ 103 → ¬ (q = 102 ∧ 1600 ≤ k) → K6 q k = K4 q k := fun q k x1 x2 => by rw [g3 _ _ (by omega), f3 _ _ (by omega)]
  have l96 : ∀ j, j < 24 → K6 96 j = I 96 j := fun j hj => by rw [k6 _ _ (by omega) (by omega), e3 _ _ (by omega), d3 _ _ (by omega), c3 _ _ (by omega), k1 _ _ (by omega) (by omega)]
  obtain ⟨K7, m1, m2, m3, m4⟩ := m_248 (d := d) (J := J1) (X := X) hm b6 (I0 := K6) (by rw [k6 _ _ (by omega) (by omega), k4 _ _ (by omega) (by omega) (by omega) (by omega) (by omega)]; exact h3) (fun b x hx => by
    have blt := (List.getElem?_eq_some_iff.mp hx).1
    obtain ⟨-, y2, y3, y4, y5, y6⟩ := hb b x hx
    refine ⟨by rw [l96 _ (by omega)]; exact y2, by rw [l96 _ (by omega)]; exact y3, by rw [l96 _ (by omega)]; exact y4, by rw [l96 _ (by omega)]; exact y5, (hO.2.1 x (List.mem_of_getElem? hx)).2.2.2.1, fun k v hv => ?_⟩
    rw [k6 _ _ (by omega) (by omega), k4 _ _ (by omega) (by omega) (by omega) (by omega) (by omega)]
    exact y6 k v hv) X.bn.length 0 K6 (by omega) (fun _ _ _ => rfl) ⟨g2' 0 (by omega), g2' 67 (by omega), fun b hb => ⟨g2' _ (by omega), g2' _ (by omega)⟩⟩ (fun c x hc => absurd hc (Nat.not_lt_zero _))
  have m1' : am_E (d + 1) 190 248 [(0, .ref 64), (1, .int (am_i 0))] [] (K6, J1, R, 138) = _ := m1
  obtain ⟨K9, hK9⟩ : ∃ K9, K9 = am_up (am_up K7 64 68 (am_i 0)) 64 63 (am_i 0) := ⟨_, rfl⟩
  have k9 : ∀ q j, ¬ (q = 64 ∧ (j = 63 ∨ j = 68)) → K9 q j = K7 q j := fun q j e => by rw [hK9, am_up_o (by omega), am_up_o (by omega)]
  have k97 : ∀ q j, q ≠ 103 → ¬ (q = 64 ∧ (j = 63 ∨ j = 68)) → ¬ (q = 102 ∧ 1600 ≤ j) → K9 q j = K4 q j := fun q j x1 x2 x3 => by rw [k9 q j x2, m2 q j x1, k6 q j x1 x3]
  have up3 : ∀ q k, (q = 93 ∨ q = 94 ∨ q = 100 ∨ q = 101) → k < 3 → K9 q (3 + k) = I q k := fun q k x1 x2 => by rw [k97 _ _ (by omega) (by omega) (by omega), e3 _ _ (by omega), d3 _ _ (by omega), c3 _ _ (by omega), k1v q k x1 x2]
  refine ⟨K9, J1, ?_, ⟨⟨?_, ?_, ?_, ?_, ?_, ?_, ?_, ?_, ?_⟩, fun b x hx => ?_, ⟨?_, ?_, fun b hb => ⟨?_, ?_⟩⟩, fun r y hy => ?_, fun m v hm hv => ?_, fun f hf3 => ?_⟩, fun q j x1 x2 => ?_, fun q j x1 => a3 q j (by omega)⟩
  · rw [s0, a1', t1, c1', t2, d1', t3, e1', t4, f1', t5, g1', t6, m1', hK9]
  · rw [up3 93 0 (by omega) (by omega)]; exact h0
  · rw [up3 93 1 (by omega) (by omega)]; exact h1
  · rw [up3 93 2 (by omega) (by omega)]; exact h2
  · rw [up3 94 0 (by omega) (by omega)]; exact h3
  · rw [up3 94 1 (by omega) (by omega)]; exact h4
  · rw [up3 94 2 (by omega) (by omega)]; exact h5
  · rw [k97 _ _ (by omega) (by omega) (by omega), e3 _ _ (by omega), d3 _ _ (by omega), c3 _ _ (by omega), hK1, tsI_o (by omega), am_up_e]
  · rw [hK9, am_up_o (by omega), am_up_e]
  · rw [hK9, am_up_e]
  · have blt := (List.getElem?_eq_some_iff.mp hx).1
    obtain ⟨y1, y2, y3, y4, y5, y6⟩ := hb b x hx
    obtain ⟨w1, w2, w3, w4⟩ := m4 b x hx
    refine ⟨?_, ?_, by rw [k9 _ _ (by omega)]; exact w1, by rw [k9 _ _ (by omega)]; exact w2, by rw [k9 _ _ (by omega)]; exact w3, fun k v hv => by rw [k9 _ _ (by omega)]; exact w4 k v hv⟩
    · rw [a2 b (by omega)]; exact y1
    · rw [k97 _ _ (by omega) (by omega) (by omega), e3 _ _ (by omega), d3 _ _ (by omega), show 27 + 4 * b = 24 + (4 * b + 3) by omega, c2 _ (by omega), k1 _ _ (by omega) (by omega)]; exact y5
  · rw [k9 _ _ (by omega)]; exact m3.1
  · rw [k9 _ _ (by omega)]; exact m3.2.1
  · rw [k9 _ _ (by omega)]; exact (m3.2.2 b hb).1
  · rw [k9 _ _ (by omega)]; exact (m3.2.2 b hb).2
  · have rlt := (List.getElem?_eq_some_iff.mp hy).1
    obtain ⟨y1, y2⟩ := hr r y hy
    refine ⟨?_, ?_⟩
    · rw [show 24 + r = 16 + (8 + r) by omega, a2 (8 + r) (by omega)]; exact y1
    · rw [k97 _ _ (by omega) (by omega) (by omega), e3 _ _ (by omega), d2 r (by omega), c3 _ _ (by omega), k1 _ _ (by omega) (by omega)]; exact y2
  · rw [k97 _ _ (by omega) (by omega) (by omega), show 488 + 8 * m + v = 488 + (8 * m + v) by omega, e2 (8 * m + v) (by omega), z99 _ (by omega), show (8 * m + v) / 8 = m by omega, show (8 * m + v) % 8 = v by omega]
  · obtain ⟨hno, hso⟩ := hf f hf3
    cases hq : X.fo f with
    | none =>
      left
      refine ⟨?_, fmX_n hq⟩
      rw [up3 100 f (by omega) hf3]; exact hno hq
    | some al =>
      obtain ⟨a, l⟩ := al
      obtain ⟨y1, y2, y3⟩ := hso a l hq
      obtain ⟨z1, z2, z3⟩ := hO.2.2.2.2.2 f a l hq
      right
      rw [fmX_s hq]
      refine ⟨a, by omega, ?_, ?_, fun k t ht => ?_⟩
      · rw [up3 100 f (by omega) hf3]; exact y1
      · rw [up3 101 f (by omega) hf3]; exact y2
      · have hk := (List.getElem?_eq_some_iff.mp ht).1
        rw [k9 _ _ (by omega), m2 _ _ (by omega), g3 _ _ (by omega), show 1600 + a + k = 1600 + (a + k) by omega, f2 (a + k) (by omega), k4 _ _ (by omega) (by omega) (by omega) (by omega) (by omega)]
        exact y3 k t ht
  · rw [k97 _ _ (by omega) (by omega) (by omega), k4 _ _ (by omega) (by omega) (by omega) (by omega) (by omega)]
end MSTD
