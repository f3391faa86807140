/-! ===== acts ===== -/
def kC (q k : Nat) : Prop := (31 ≤ q ∧ q ≤ 34) ∨ q = 103 ∨ q = 110 ∨ (q = 64 ∧ (k = 68 ∨ k = 69))
theorem restW_K {I I' : tI} {J J' : tJ} {R R' : tR} {c last nb nr nw wd sq K : Nat} {nt wf : Nat → Nat} {fm : Nat → List tok} (h4 : R 3 4 = c) (hc : c = 10 ∨ c = 20) (hB : restB I c last nb nr nw wd sq nt wf) (hN : (∀ b, b < nb → nameR (I (c + 1) b) (J 95 (16 + b))) ∧ ∀ r, r < nr → nameR (I (c + 2) r) (J 95 (24 + r))) (hF : last ≠ 0 → ∀ f, f < 3 → frX I c f (fm f) ∧ frM I f (fm f) ∧ frT false (f == 2) (fm f)) (hX : ∀ q, fixd q = true → I q = am_K0 q)
    (hI : ∀ q k, ¬ sC q k → ¬ kC q k → I' q k = I q k) (hJ : ∀ q k, q ≠ 136 → q ≠ 51 → J' q k = J q k) (hR : rR R R') (hS : stR (I' 31) (I' 32) (I' 103) last nb nt K) (hA : actsR I' last nb nt K) : restW I' J' R' := by
  have hq : ∀ q, q ≠ 64 → ¬ sC q 0 → ¬ kC q 0 → ¬ (q = 57 ∨ q = 5) → I' q = I q := fun q h1 h2 h3 h4 => funext fun k => hI q k (by unfold sC at *; omega) (by unfold kC at *; omega)
  have hcq : ∀ j, j ≤ 9 → I' (c + j) = I (c + j) := fun j hj => hq _ (by omega) (by unfold sC; omega) (by unfold kC; omega) (by omega)
  have k0 : I' c = I c := hcq 0 (by omega)
  have k1 := hcq 1 (by omega)
  have k2 := hcq 2 (by omega)
  have k3 := hcq 3 (by omega)
  have k4 := hcq 4 (by omega)
  have k6 := hcq 6 (by omega)
  have k7 := hcq 7 (by omega)
  have k8 := hcq 8 (by omega)
  have k9 := hcq 9 (by omega)
  have eq : ∀ q, 93 ≤ q → q ≤ 102 → I' q = I q := fun q a b => hq q (by omega) (by unfold sC; omega) (by unfold kC; omega) (by omega)
  have e93 := eq 93 (by omega) (by omega)
  have e94 := eq 94 (by omega) (by omega)
  have e96 := eq 96 (by omega) (by omega)
  have e98 := eq 98 (by omega) (by omega)
  have e99 := eq 99 (by omega) (by omega)
  have e100 := eq 100 (by omega) (by omega)
  have e101 := eq 101 (by omega) (by omega)
  have e102 := eq 102 (by omega) (by omega)
  have f50 := hI 64 50 (by unfold sC; omega) (by unfold kC; omega)
  have f58 := hI 64 58 (by unfold sC; omega) (by unfold kC; omega)
  have j95 : J' 95 = J 95 := funext fun k => hJ 95 k (by omega) (by omega)
  refine ⟨c, last, nb, nr, nw, wd, sq, K, nt, wf, fm, by rw [hR.1 _ _ (by omega)]; exact h4, hc, ?_, ?_, ?_, hS, hA, fun q hf => ?_⟩
  · unfold restB at hB ⊢
    simp only [k0, k3, k4, k6, e93, e94, e96, e98, e99, f50, f58]
    exact hB
  · simp only [k1, k2, j95]
    exact hN
  · intro hl f hf
    have h := hF hl f hf
    unfold frX frM at h ⊢
    simp only [k7, k8, k9, e100, e101, e102]
    exact h
  · have hf' := hf
    unfold fixd at hf
    simp at hf
    rw [hq q (by omega) (by unfold sC; omega) (by unfold kC; omega) (by omega)]
    exact hX q hf'
theorem vV_k {L : Nat} {xs : Nat → Int32} {I I' : tI} {J J' : tJ} {R R' : tR} (hV : vV restW L xs I J R) (hI : ∀ q k, ¬ sC q k → ¬ kC q k → I' q k = I q k) (hJ : ∀ q k, q ≠ 136 → q ≠ 51 → J' q k = J q k) (hR : rR R R') (hw : restW I' J' R') : vV restW L xs I' J' R' := by
  obtain ⟨⟨h1, h2, hx, hm, ha, hb, hc, hd, he⟩, ht, hr, hf, hp, hs, hsd, -⟩ := hV
  have g := hR.1
  refine ⟨⟨?_, ?_, rR_x hR hx, rR_m hR hm, ?_, ?_, hR.2.1, hR.2.2, ?_⟩, vTape_cg I I' (fun q k e => hI q k ?_ ?_) ht, vRefd_cg I I' (fun q k e => hI q k ?_ ?_) hr, vFault_cg I I' (fun q k e => hI q k ?_ ?_) hf, vPic_cg I I' (fun q k e => hI q k ?_ ?_) hp, vSeen_cg I I' (fun q k e => hI q k ?_ ?_) hs, ?_, hw⟩
  · funext k
    rw [hI 1 k (by unfold sC; omega) (by unfold kC; omega), h1]
  · rw [g _ _ (by omega)]; exact h2
  · rw [g _ _ (by omega), g _ _ (by omega)]; exact ha
  · rw [g _ _ (by omega)]; exact hb
  · rw [g _ _ (by omega)]; exact he
  · unfold dTape at e; simp at e; unfold sC; omega
  · unfold dTape at e; simp at e; unfold kC; omega
  · unfold dRefd at e; simp at e; unfold sC; omega
  · unfold dRefd at e; simp at e; unfold kC; omega
  · unfold dFault at e; simp at e; unfold sC; omega
  · unfold dFault at e; simp at e; unfold kC; omega
  · unfold dPic at e; simp at e; unfold sC; omega
  · unfold dPic at e; simp at e; unfold kC; omega
  · unfold dSeen at e; simp at e; unfold sC; omega
  · unfold dSeen at e; simp at e; unfold kC; omega
  · obtain ⟨s, s1, s2, s3⟩ := hsd
    exact ⟨s, s1, by rw [hI _ _ (by unfold sC; omega) (by unfold kC; omega)]; exact s2, by rw [hJ _ _ (by omega) (by omega)]; exact s3⟩
theorem vV_ref {L : Nat} {xs : Nat → Int32} {I : tI} {J : tJ} {R : tR} (hV : vV restW L xs I J R) (q : Nat) : vV restW L xs (am_up (am_up I 63 q (I 63 q + am_i 1)) 66 q (I 66 q + am_i 1)) J R := by
  obtain ⟨⟨h1, h2, hx, hm, hmu⟩, ht, hr, hf, hp, hs, hd, hw⟩ := hV
  exact ⟨⟨by rw [am_up_ap, am_up_ap]; exact h1, h2, hx, hm, hmu⟩, cg_up vTape_cg _ rfl (cg_up vTape_cg _ rfl ht), vRefd_inc hr q, cg_up vFault_cg _ rfl (cg_up vFault_cg _ rfl hf), cg_up vPic_cg _ rfl (cg_up vPic_cg _ rfl hp), cg_up vSeen_cg _ rfl (cg_up vSeen_cg _ rfl hs), cg_up (vSeed_cg _) _ rfl (cg_up (vSeed_cg _) _ rfl hd), cg_up (wC_I restW_C _ _) _ rfl (cg_up (wC_I restW_C _ _) _ rfl hw)⟩
theorem stR_c {f ring g f' g' : Nat → Int32} {last nb K : Nat} {nt : Nat → Nat} (h6 : nb ≤ 6) (hn : ∀ b, b < nb → nt b ≤ 6) (e1 : ∀ i, i < 68 → f' i = f i) (e2 : ∀ i, i < 188 → g' i = g i) (h : stR f ring g last nb nt K) : stR f' ring g' last nb nt K := by
  obtain ⟨h, s, ⟨a1, a2, a3, a4⟩, ⟨k1, k2, k3⟩, hK⟩ := h
  refine ⟨h, s, ⟨a1, by rw [e1 _ (by omega)]; exact a2, by rw [e2 _ (by omega)]; exact a3, fun b hb => ?_⟩, ⟨by rw [e1 _ (by omega)]; exact k1, by rw [e2 _ (by omega)]; exact k2, fun k hk => ?_⟩, hK⟩
  · obtain ⟨o, x, y⟩ := a4 b hb
    have := hn b hb
    obtain ⟨x0, x1, x2, x3, x4, x5⟩ := x
    obtain ⟨y0, y1, y2, y3, y4, y5⟩ := y
    exact ⟨o, ⟨by rw [e1 _ (by omega)]; exact x0, by rw [e1 _ (by omega)]; exact x1, by rw [e1 _ (by omega)]; exact x2, by rw [e1 _ (by omega)]; exact x3, by rw [e1 _ (by omega)]; exact x4, fun k hk => by rw [e1 _ (by omega)]; exact x5 k hk⟩, ⟨by rw [e2 _ (by omega)]; exact y0, by rw [e2 _ (by omega)]; exact y1, by rw [e2 _ (by omega)]; exact y2, by rw [e2 _ (by omega)]; exact y3, by rw [e2 _ (by omega)]; exact y4, fun k hk => by rw [e2 _ (by omega)]; exact y5 k hk⟩⟩
  · obtain ⟨h, b, w, q1, q2, q3, q4, q5, q6, q7⟩ := k3 k hk
    exact ⟨h, b, w, q1, q2, q3, q4, by rw [e2 _ (by omega)]; exact q5, by rw [e2 _ (by omega)]; exact q6, by rw [e2 _ (by omega)]; exact q7⟩
theorem acts_k {I I' : tI} {last nb K K' n x : Nat} {nt Kf : Nat → Nat} (h6 : nb ≤ 6) (hnt : ∀ b, b < nb → nt b ≤ 6) (hn : n ≤ 20) (hx : x < 20) (hK0 : Kf 0 = K) (hst : ∀ j, j < n → Kf (j + 1) ≤ Kf j ∧ Kf j ≤ Kf (j + 1) + 6 ∧ stR (fun i => I 34 (68 * ((x + 19 - j) % 20) + i)) (I 32) (fun i => I 110 (188 * ((x + 20 - j) % 20) + i)) last nb nt (Kf (j + 1))) (hS : stR (I 31) (I 32) (I 103) last nb nt K)
    (e1 : I' 33 1 = am_i ((x + 1) % 20 : Nat)) (e2 : I' 64 69 = am_i ((x + 1) % 20 : Nat)) (e3 : I' 33 2 = am_i (min 20 (n + 1) : Nat)) (e4 : I' 64 68 = am_i (min 20 (n + 1) : Nat)) (s1 : ∀ i, i < 68 → I' 34 (68 * x + i) = I 31 i) (s2 : ∀ k, ¬ (68 * x ≤ k ∧ k < 68 * x + 68) → I' 34 k = I 34 k) (s3 : ∀ k, k < 188 → I' 110 (188 * ((x + 1) % 20) + k) = I 103 k) (s4 : ∀ k, ¬ (188 * ((x + 1) % 20) ≤ k ∧ k < 188 * ((x + 1) % 20) + 188) → I' 110 k = I 110 k) (hK1 : K ≤ K') (hK2 : K' ≤ K + 6) (ring : ∀ f g k, k ≤ K → K' ≤ k + 126 → stR f (I 32) g last nb nt k → stR f (I' 32) g last nb nt k) : actsR I' last nb nt K' := by
  have hKj : ∀ j, j ≤ n → Kf j ≤ K ∧ K ≤ Kf j + 6 * j := fun j => by
    induction j with
    | zero => intro _; rw [hK0]; omega
    | succ j ih =>
      intro hj
      have := ih (by omega)
      obtain ⟨a, b, -⟩ := hst j (by omega)
      omega
  refine ⟨min 20 (n + 1), (x + 1) % 20, fun j => match j with | 0 => K' | j + 1 => Kf j, by omega, Nat.mod_lt _ (by decide), e3, e4, e1, e2, rfl, fun j hj => ?_⟩
  cases j with
  | zero =>
    refine ⟨by show Kf 0 ≤ K'; omega, by show K' ≤ Kf 0 + 6; omega, ?_⟩
    show stR (fun i => I' 34 (68 * (((x + 1) % 20 + 19 - 0) % 20) + i)) (I' 32) (fun i => I' 110 (188 * (((x + 1) % 20 + 20 - 0) % 20) + i)) last nb nt (Kf 0)
    rw [show ((x + 1) % 20 + 19 - 0) % 20 = x by omega, show ((x + 1) % 20 + 20 - 0) % 20 = (x + 1) % 20 by omega, hK0]
    exact stR_c h6 hnt s1 s3 (ring _ _ K (by omega) (by omega) hS)
  | succ j =>
    obtain ⟨a, b, c⟩ := hst j (by omega)
    refine ⟨a, b, ?_⟩
    show stR (fun i => I' 34 (68 * (((x + 1) % 20 + 19 - (j + 1)) % 20) + i)) (I' 32) (fun i => I' 110 (188 * (((x + 1) % 20 + 20 - (j + 1)) % 20) + i)) last nb nt (Kf (j + 1))
    have p1 : ((x + 1) % 20 + 19 - (j + 1)) % 20 = (x + 19 - j) % 20 := by omega
    have p2 : ((x + 1) % 20 + 20 - (j + 1)) % 20 = (x + 20 - j) % 20 := by omega
    have p3 : (x + 19 - j) % 20 ≠ x := by omega
    have p4 : (x + 20 - j) % 20 ≠ (x + 1) % 20 := by omega
    rw [p1, p2]
    have := hKj (j + 1) (by omega)
    refine stR_c h6 hnt (fun i hi => s2 _ (by omega)) (fun i hi => s4 _ (by omega)) (ring _ _ _ this.1 (by omega) c)
section KEEP
variable {d : Nat} {I : tI} {J : tJ} {R : tR} {n x : Nat}
theorem cyK {x : Nat} (h : x < 20) : am_cy 138 31 (am_i 0) 34 (am_i ((68 * x : Nat) : Int)) (am_i 68) = true ∧ am_cy 138 34 (am_i ((68 * x : Nat) : Int)) 31 (am_i 0) (am_i 68) = true := by
  have : ∀ x : Fin 20, am_cy 138 31 (am_i 0) 34 (am_i ((68 * x.val : Nat) : Int)) (am_i 68) = true ∧ am_cy 138 34 (am_i ((68 * x.val : Nat) : Int)) 31 (am_i 0) (am_i 68) = true := by decide
  exact this ⟨x, h⟩
theorem x_keep (hx : st_Rx R) (hn : n ≤ 20) (h20 : x < 20) (e1 : I 33 1 = am_i x) (e2 : I 33 2 = am_i n) : Wp (fun r M => ∃ I', r = none ∧ M = (I', J, R, 138) ∧ I' 33 1 = am_i ((x + 1) % 20 : Nat) ∧ I' 33 2 = am_i (min 20 (n + 1) : Nat) ∧ (∀ i, i < 68 → I' 34 (68 * x + i) = I 31 i) ∧ (∀ k, ¬ (68 * x ≤ k ∧ k < 68 * x + 68) → I' 34 k = I 34 k) ∧ ∀ q k, q ≠ 34 → q ≠ 33 → I' q k = I q k) (am_E (d + 1) 1 0 [(0, .ref 33), (1, .ref 31)] [] (I, J, R, 138)) := by
  have ex : am_i (x : Int) * am_i 68 = am_i ((68 * x : Nat) : Int) := by rw [am_i_mul]; congr 1; omega
  have cy := (cyK h20).1
  have fin : ∀ y z : Nat, y = (x + 1) % 20 → z = min 20 (n + 1) → Wp (fun r M => ∃ I', r = none ∧ M = (I', J, R, 138) ∧ I' 33 1 = am_i ((x + 1) % 20 : Nat) ∧ I' 33 2 = am_i (min 20 (n + 1) : Nat) ∧ (∀ i, i < 68 → I' 34 (68 * x + i) = I 31 i) ∧ (∀ k, ¬ (68 * x ≤ k ∧ k < 68 * x + 68) → I' 34 k = I 34 k) ∧ ∀ q k, q ≠ 34 → q ≠ 33 → I' q k = I q k) (some (none, (am_up (am_up (am_cp I 31 0 34 (68 * x) 68) 33 1 (am_i y)) 33 2 (am_i (z : Int)), J, R, 138)) : am_R) := by
    intro y z hy hz
    refine Wp_r ⟨_, rfl, rfl, ?_, by rw [am_up_e, hz], fun i hi => ?_, fun k hk => ?_, fun q k a1 a2 => ?_⟩
    · rw [am_up_o (by omega), am_up_e, hy]
    · rw [am_up_o (by omega), am_up_o (by omega), am_cp_ap, if_pos rfl]
      unfold va_cpy
      rw [if_pos (by omega), show 0 + (68 * x + i - 68 * x) = i by omega]
    · rw [am_up_o (by omega), am_up_o (by omega), am_cp_ap, if_pos rfl]
      unfold va_cpy
      rw [if_neg (by omega)]
    · rw [am_up_o (by omega), am_up_o (by omega), am_cp_ap, if_neg a1]
  have c1 : ∀ k, am_cp I 31 0 34 (68 * x) 68 33 k = I 33 k := fun k => by rw [am_cp_ap, if_neg (by omega)]
  rw [sg_X0_keep_0]
  by_cases q : 20 ≤ x + 1 <;> by_cases q2 : n + 1 < 20
  · simp (disch := first | assumption | omega) only [rX hx, ly_csx, ly_cax, ly_cf, ly_kd, ly_ln, ↓Bool.cond_decide, cond_true, cond_false, ↓bI_p, ↓bV_p, ↓bL_p, bIJ_s, bVJ_s, bLJ_s, ↓am_let_s, Nat.blt, Nat.ble, Bool.and_true, Bool.true_and, Bool.and_self, Int.cast_ofNat_Int, ex, cy, e1, am_i_add, am_i_sub, am_i_mul, am_ok_i, am_i_cl, n_lt, n_le, n_eq, n_lt0, n_le0, n_0lt, n_0le, n_eq0, ne_eq, ↓reduceIte, not_true_eq_false, not_false_eq_true, and_true, true_and, and_false, false_and, eq_T, eq_F, lt_T, lt_F, le_T, le_F, qn_T, qn_F, and_F, b01_T, b01_F, e_isIn, Int32.toInt_toInt64, am_i_toInt, am_l_toInt, Int.toNat_natCast, Int.reduceToNat, Int.reduceAdd, Int.reduceSub, Int.reduceMul, Int.reduceNeg, Nat.reduceAdd, Nat.reduceMul, Nat.add_zero, Nat.mul_zero, Nat.zero_add, am_zb0, am_zb1, c1, am_up_o, e2]
    exact fin 0 (n + 1) (by omega) (by omega)
  · simp (disch := first | assumption | omega) only [rX hx, ly_csx, ly_cax, ly_cf, ly_kd, ly_ln, ↓Bool.cond_decide, cond_true, cond_false, ↓bI_p, ↓bV_p, ↓bL_p, bIJ_s, bVJ_s, bLJ_s, ↓am_let_s, Nat.blt, Nat.ble, Bool.and_true, Bool.true_and, Bool.and_self, Int.cast_ofNat_Int, ex, cy, e1, am_i_add, am_i_sub, am_i_mul, am_ok_i, am_i_cl, n_lt, n_le, n_eq, n_lt0, n_le0, n_0lt, n_0le, n_eq0, ne_eq, ↓reduceIte, not_true_eq_false, not_false_eq_true, and_true, true_and, and_false, false_and, eq_T, eq_F, lt_T, lt_F, le_T, le_F, qn_T, qn_F, and_F, b01_T, b01_F, e_isIn, Int32.toInt_toInt64, am_i_toInt, am_l_toInt, Int.toNat_natCast, Int.reduceToNat, Int.reduceAdd, Int.reduceSub, Int.reduceMul, Int.reduceNeg, Nat.reduceAdd, Nat.reduceMul, Nat.add_zero, Nat.mul_zero, Nat.zero_add, am_zb0, am_zb1, c1, am_up_o, e2]
    exact fin 0 20 (by omega) (by omega)
  · simp (disch := first | assumption | omega) only [rX hx, ly_csx, ly_cax, ly_cf, ly_kd, ly_ln, ↓Bool.cond_decide, cond_true, cond_false, ↓bI_p, ↓bV_p, ↓bL_p, bIJ_s, bVJ_s, bLJ_s, ↓am_let_s, Nat.blt, Nat.ble, Bool.and_true, Bool.true_and, Bool.and_self, Int.cast_ofNat_Int, ex, cy, e1, am_i_add, am_i_sub, am_i_mul, am_ok_i, am_i_cl, n_lt, n_le, n_eq, n_lt0, n_le0, n_0lt, n_0le, n_eq0, ne_eq, ↓reduceIte, not_true_eq_false, not_false_eq_true, and_true, true_and, and_false, false_and, eq_T, eq_F, lt_T, lt_F, le_T, le_F, qn_T, qn_F, and_F, b01_T, b01_F, e_isIn, Int32.toInt_toInt64, am_i_toInt, am_l_toInt, Int.toNat_natCast, Int.reduceToNat, Int.reduceAdd, Int.reduceSub, Int.reduceMul, Int.reduceNeg, Nat.reduceAdd, Nat.reduceMul, Nat.add_zero, Nat.mul_zero, Nat.zero_add, am_zb0, am_zb1, c1, am_up_o, e2]
    exact fin (x + 1) (n + 1) (by omega) (by omega)
  · simp (disch := first | assumption | omega) only [rX hx, ly_csx, ly_cax, ly_cf, ly_kd, ly_ln, ↓Bool.cond_decide, cond_true, cond_false, ↓bI_p, ↓bV_p, ↓bL_p, bIJ_s, bVJ_s, bLJ_s, ↓am_let_s, Nat.blt, Nat.ble, Bool.and_true, Bool.true_and, Bool.and_self, Int.cast_ofNat_Int, ex, cy, e1, am_i_add, am_i_sub, am_i_mul, am_ok_i, am_i_cl, n_lt, n_le, n_eq, n_lt0, n_le0, n_0lt, n_0le, n_eq0, ne_eq, ↓reduceIte, not_true_eq_false, not_false_eq_true, and_true, true_and, and_false, false_and, eq_T, eq_F, lt_T, lt_F, le_T, le_F, qn_T, qn_F, and_F, b01_T, b01_F, e_isIn, Int32.toInt_toInt64, am_i_toInt, am_l_toInt, Int.toNat_natCast, Int.reduceToNat, Int.reduceAdd, Int.reduceSub, Int.reduceMul, Int.reduceNeg, Nat.reduceAdd, Nat.reduceMul, Nat.add_zero, Nat.mul_zero, Nat.zero_add, am_zb0, am_zb1, c1, am_up_o, e2]
    exact fin (x + 1) 20 (by omega) (by omega)
theorem m_k15 (hm : st_Rm R) {y : Nat} (hy : y < 20) (hn : n ≤ 20) : ∀ (m a : Nat) (I : tI), a + m = 188 → I 64 69 = am_i y → I 64 68 = am_i n → ∃ I', am_E (d + 1) 248 15 [(0, .ref 64), (1, .int (am_i a))] [] (I, J, R, 138) = some (none, (I', J, R, 138)) ∧ I' 64 68 = am_i (min 20 (n + 1) : Nat) ∧ (∀ q k, ¬ (q = 64 ∧ k = 68) → ¬ (q = 110 ∧ 188 * y + a ≤ k ∧ k < 188 * y + 188) → I' q k = I q k) ∧ ∀ k, a ≤ k → k < 188 → I' 110 (188 * y + k) = I 103 k
  | 0, a, I, ha, h69, h68 => by
    rw [sg_X12_keeps_15]
    by_cases q : 20 ≤ n
    · refine ⟨I, ?_, ?_, fun _ _ _ _ => rfl, fun k h1 h2 => absurd h2 (by omega)⟩
      · simp (disch := first | assumption | omega) only [rM hm, ly_csm, ly_cam, ly_cf, ly_kd, ly_ln, ↓Bool.cond_decide, cond_true, cond_false, ↓bI_p, ↓bV_p, ↓bL_p, bIJ_s, bVJ_s, bLJ_s, ↓am_let_s, Nat.blt, Nat.ble, Bool.and_true, Bool.true_and, Bool.and_self, Int.cast_ofNat_Int, am_i_add, am_i_sub, am_i_mul, am_ok_i, am_i_cl, n_lt, n_le, n_eq, n_lt0, n_le0, n_0lt, n_0le, n_eq0, ne_eq, ↓reduceIte, not_true_eq_false, not_false_eq_true, and_true, true_and, and_false, false_and, eq_T, eq_F, lt_T, lt_F, le_T, le_F, qn_T, qn_F, and_F, b01_T, b01_F, e_isIn, Int32.toInt_toInt64, am_i_toInt, am_l_toInt, Int.toNat_natCast, Int.reduceToNat, Int.reduceAdd, Int.reduceSub, Int.reduceMul, Int.reduceNeg, Nat.reduceAdd, Nat.reduceMul, Nat.add_zero, Nat.mul_zero, Nat.zero_add, am_zb0, am_zb1, h68, sg_X12_keeps_68]
      · rw [h68, show min 20 (n + 1) = n by omega]
    · refine ⟨am_up I 64 68 (am_i ((n + 1 : Nat) : Int)), ?_, ?_, fun q k h1 _ => am_up_o h1, fun k h1 h2 => absurd h2 (by omega)⟩
      · simp (disch := first | assumption | omega) only [rM hm, ly_csm, ly_cam, ly_cf, ly_kd, ly_ln, ↓Bool.cond_decide, cond_true, cond_false, ↓bI_p, ↓bV_p, ↓bL_p, bIJ_s, bVJ_s, bLJ_s, ↓am_let_s, Nat.blt, Nat.ble, Bool.and_true, Bool.true_and, Bool.and_self, Int.cast_ofNat_Int, am_i_add, am_i_sub, am_i_mul, am_ok_i, am_i_cl, n_lt, n_le, n_eq, n_lt0, n_le0, n_0lt, n_0le, n_eq0, ne_eq, ↓reduceIte, not_true_eq_false, not_false_eq_true, and_true, true_and, and_false, false_and, eq_T, eq_F, lt_T, lt_F, le_T, le_F, qn_T, qn_F, and_F, b01_T, b01_F, e_isIn, Int32.toInt_toInt64, am_i_toInt, am_l_toInt, Int.toNat_natCast, Int.reduceToNat, Int.reduceAdd, Int.reduceSub, Int.reduceMul, Int.reduceNeg, Nat.reduceAdd, Nat.reduceMul, Nat.add_zero, Nat.mul_zero, Nat.zero_add, am_zb0, am_zb1, h68, sg_X12_keeps_68, am_i_s]
      · rw [am_up_e, show min 20 (n + 1) = n + 1 by omega]
  | m + 1, a, I, ha, h69, h68 => by
    have e1 : ((188 : Int) * (y : Int) + (a : Int)).toNat = 188 * y + a := by omega
    obtain ⟨I', g1, g2, g3, g4⟩ := m_k15 hm hy hn m (a + 1) (am_up I 110 (188 * y + a) (I 103 a)) (by omega) (by rw [am_up_o (by omega)]; exact h69) (by rw [am_up_o (by omega)]; exact h68)
    refine ⟨I', ?_, g2, fun q k h1 h2 => ?_, fun k h1 h2 => ?_⟩
    · rw [← g1, sg_X12_keeps_15]
      simp (disch := first | assumption | omega) only [rM hm, ly_csm, ly_cam, ly_cf, ly_kd, ly_ln, ↓Bool.cond_decide, cond_true, cond_false, ↓bI_p, ↓bV_p, ↓bL_p, bIJ_s, bVJ_s, bLJ_s, ↓am_let_s, Nat.blt, Nat.ble, Bool.and_true, Bool.true_and, Bool.and_self, Int.cast_ofNat_Int, am_i_add, am_i_sub, am_i_mul, am_ok_i, am_i_cl, n_lt, n_le, n_eq, n_lt0, n_le0, n_0lt, n_0le, n_eq0, ne_eq, ↓reduceIte, not_true_eq_false, not_false_eq_true, and_true, true_and, and_false, false_and, eq_T, eq_F, lt_T, lt_F, le_T, le_F, qn_T, qn_F, and_F, b01_T, b01_F, e_isIn, Int32.toInt_toInt64, am_i_toInt, am_l_toInt, Int.toNat_natCast, Int.reduceToNat, Int.reduceAdd, Int.reduceSub, Int.reduceMul, Int.reduceNeg, Nat.reduceAdd, Nat.reduceMul, Nat.add_zero, Nat.mul_zero, Nat.zero_add, am_zb0, am_zb1, h69, e1, am_i_s]
    · rw [g3 q k h1 (by omega), am_up_o (by omega)]
    · by_cases q : k = a
      · subst q
        rw [g3 _ _ (by omega) (by omega), am_up_e]
      · rw [g4 k (by omega) h2, am_up_o (by omega)]
theorem m_keeps (hm : st_Rm R) (hn : n ≤ 20) (h20 : x < 20) (e1 : I 64 69 = am_i x) (e2 : I 64 68 = am_i n) : Wp (fun r M => ∃ I', r = none ∧ M = (I', J, R, 138) ∧ I' 64 69 = am_i ((x + 1) % 20 : Nat) ∧ I' 64 68 = am_i (min 20 (n + 1) : Nat) ∧ (∀ k, k < 188 → I' 110 (188 * ((x + 1) % 20) + k) = I 103 k) ∧ (∀ k, ¬ (188 * ((x + 1) % 20) ≤ k ∧ k < 188 * ((x + 1) % 20) + 188) → I' 110 k = I 110 k) ∧ ∀ q k, q ≠ 110 → ¬ (q = 64 ∧ (k = 68 ∨ k = 69)) → I' q k = I q k) (am_E (d + 1) 248 0 [(0, .ref 64)] [] (I, J, R, 138)) := by
  have hy : (x + 1) % 20 < 20 := Nat.mod_lt _ (by decide)
  have ey : am_i ((x : Int) + 1) - am_i ((x : Int) + 1) / am_i 20 * am_i 20 = am_i (((x + 1) % 20 : Nat) : Int) := by
    rw [i_div (by omega) (by omega) (by omega) (by omega), am_i_mul, am_i_sub, Int.tdiv_eq_ediv_of_nonneg (by omega)]
    congr 1
    omega
  have nz : (!am_i 20 == 0) = true := by decide
  obtain ⟨I', g1, g2, g3, g4⟩ := m_k15 (d := d) (J := J) (R := R) hm hy hn 188 0 (am_up I 64 69 (am_i (((x + 1) % 20 : Nat) : Int))) (by omega) am_up_e (by rw [am_up_o (by omega)]; exact e2)
  have g1' : am_E (d + 1) 248 15 [(0, .ref 64), (1, .int (am_i 0))] [] (am_up I 64 69 (am_i (((x + 1) % 20 : Nat) : Int)), J, R, 138) = some (none, (I', J, R, 138)) := g1
  have ea : am_i (x : Int) + am_i 1 = am_i ((x : Int) + 1) := am_i_add _ _
  rw [sg_X12_keeps_0]
  simp (disch := first | assumption | omega) only [ly_cf, e1, ea, ey, nz, ↓Bool.cond_decide, cond_true, cond_false, ↓am_let_s, ↓bI_p, bIJ_s, ↓bV_p, bVJ_s, ↓bL_p, bLJ_s, ly_cf, Bool.and_self, Bool.and_true, g1']
  refine Wp_r ⟨I', rfl, rfl, ?_, g2, fun k hk => ?_, fun k hk => ?_, fun q k a b => ?_⟩
  · rw [g3 _ _ (by omega) (by omega), am_up_e]
  · rw [g4 k (by omega) hk, am_up_o (by omega)]
  · rw [g3 _ _ (by omega) (by omega), am_up_o (by omega)]
  · rw [g3 _ _ (by omega) (by omega), am_up_o (by omega)]
end KEEP
