/-! ===== statements: the class; boat, rider ===== -/
def xF (c : Nat) (I I' : tI) : Prop := ∀ q j, ¬ (q = 5 ∨ q = 8 ∨ q = 9 ∨ (c ≤ q ∧ q ≤ c + 9)) → I' q j = I q j
def xQ (T : Nat → Nat) (n c : Nat) (r : sRs) (I : tI) : Prop := xR T n (r.1, r.2.1) I ∧ (r.1 = 0 → xCh c r.2.2 I) ∧ (∃ s : Nat, s ≤ 1600 ∧ I 8 2 = am_i s) ∧ ∃ a : Nat, a ≤ 1 ∧ I 8 3 = am_i a
def xB (T : Nat → Nat) (n c p i : Nat) (X : sSt) (I : tI) (R : tR) : Prop := n ≤ 1600 ∧ txX T n I R ∧ scX T n p I ∧ I 5 11 = am_i (-1) ∧ xCh c X I ∧ sOK n p i X ∧ (∃ a : Nat, a ≤ 1 ∧ I 8 3 = am_i a) ∧ R 30 2 = c ∧ (c = 10 ∨ c = 20)
section XBO
variable {d : Nat} {J : tJ} {R : tR} {T : Nat → Nat} {n p i c : Nat} {I I' : tI} {X : sSt} {r : Nat × Nat}
theorem xR_c (h : xR T n r I) (e : ∀ j, I' 5 j = I 5 j) : xR T n r I' := by
  unfold xR scX xFt at h ⊢
  simp only [e]
  exact h
theorem txX_n (h : txX T n I R) (e : ∀ q j, q ≠ 5 → q ≠ 8 → q ≠ 9 → ¬ (c ≤ q ∧ q ≤ c + 9) → I' q j = I q j) (hc : c = 10 ∨ c = 20) : txX T n I' R := txX_c h (fun q k x => e q k (by omega) (by omega) (by omega) (by omega))
theorem xCh_boat {b v2 v3 v4 : Nat} {l : List Nat} (hc : c = 10 ∨ c = 20) (h : xCh c X I) (hs6 : ∀ x ∈ X.bn, x.sc.length ≤ 6) (hb : b = X.bn.length) (hb6 : b < 6) (e1 : I' (c + 1) b = am_i (pk5 l : Nat)) (e2 : I' (c + 5) (11 * b) = am_i v2) (e3 : I' (c + 5) (11 * b + 1) = am_i v3) (e4 : I' (c + 5) (11 * b + 2) = am_i v4) (e5 : I' c 1 = am_i (b + 1 : Nat)) (e : ∀ q j, q ≠ 5 → ¬ (q = c + 1 ∧ j = b) → ¬ (q = c + 5 ∧ (j = 11 * b ∨ j = 11 * b + 1 ∨ j = 11 * b + 2)) → ¬ (q = c ∧ j = 1) → I' q j = I q j) : xCh c (X.la, X.wd, X.sq, X.nw, X.sz, X.bn ++ [(l, v2, v3, v4, [])], X.rd, X.wf, X.fo) I' := by
  obtain ⟨⟨a0, a1, a2, a3, a4, a5⟩, hbn, ⟨hz, hz2⟩, hr, hw, hf, h8⟩ := h
  subst hb
  refine ⟨⟨?_, ?_, ?_, ?_, ?_, ?_⟩, fun b x hx => ?_, ⟨fun b h1 h2 => ?_, fun b hb => ?_⟩, fun r y hy => ?_, fun m hm => ?_, fun f hf3 => ⟨fun q => ?_, fun a l q => ?_⟩, ?_⟩
  · rw [e _ _ (by omega) (by omega) (by omega) (by omega)]; exact a0
  · rw [e5]
    show _ = am_i ((X.bn ++ [(l, v2, v3, v4, [])]).length : Nat)
    rw [List.length_append]; rfl
  · rw [e _ _ (by omega) (by omega) (by omega) (by omega)]; exact a2
  · rw [e _ _ (by omega) (by omega) (by omega) (by omega)]; exact a3
  · rw [e _ _ (by omega) (by omega) (by omega) (by omega)]; exact a4
  · rw [e _ _ (by omega) (by omega) (by omega) (by omega)]; exact a5
  · have hx' : (X.bn ++ [(l, v2, v3, v4, [])])[b]? = some x := hx
    by_cases q : b < X.bn.length
    · rw [List.getElem?_append_left q] at hx'
      obtain ⟨b1, b2, b3, b4, b5, b6⟩ := hbn b x hx'
      exact ⟨by rw [e _ _ (by omega) (by omega) (by omega) (by omega)]; exact b1, by rw [e _ _ (by omega) (by omega) (by omega) (by omega)]; exact b2, by rw [e _ _ (by omega) (by omega) (by omega) (by omega)]; exact b3, by rw [e _ _ (by omega) (by omega) (by omega) (by omega)]; exact b4, by rw [e _ _ (by omega) (by omega) (by omega) (by omega)]; exact b5, fun k v hv => by
        have z : k < x.sc.length := (List.getElem?_eq_some_iff.mp hv).1
        have z2 := hs6 x (List.mem_of_getElem? hx')
        rw [e _ _ (by omega) (by omega) (by omega) (by omega)]
        exact b6 k v hv⟩
    · rw [List.getElem?_append_right (by omega)] at hx'
      have hk0 : b - X.bn.length = 0 := by
        cases hk : b - X.bn.length with
        | zero => rfl
        | succ m => rw [hk] at hx'; simp at hx'
      rw [hk0] at hx'
      have ex : (l, v2, v3, v4, ([] : List Nat)) = x := by simpa using hx'
      subst ex
      obtain rfl : b = X.bn.length := by omega
      exact ⟨e1, by rw [e _ _ (by omega) (by omega) (by omega) (by omega)]; exact hz _ (Nat.le_refl _) hb6, e2, e3, e4, fun k v hv => by cases hv⟩
  · have h1' : (X.bn ++ [(l, v2, v3, v4, ([] : List Nat))]).length ≤ b := h1
    rw [List.length_append] at h1'
    rw [e _ _ (by omega) (by omega) (by omega) (by omega)]
    exact hz b (by omega) h2
  · rw [e _ _ (by omega) (by omega) (by omega) (by omega), e _ _ (by omega) (by omega) (by omega) (by omega)]
    exact hz2 b hb
  · rw [e _ _ (by omega) (by omega) (by omega) (by omega), e _ _ (by omega) (by omega) (by omega) (by omega)]
    exact hr r y hy
  · rw [e _ _ (by omega) (by omega) (by omega) (by omega)]; exact hw m hm
  · rw [e _ _ (by omega) (by omega) (by omega) (by omega), e _ _ (by omega) (by omega) (by omega) (by omega)]
    exact (hf f hf3).1 q
  · obtain ⟨c1, c2, c3⟩ := (hf f hf3).2 a l q
    exact ⟨by rw [e _ _ (by omega) (by omega) (by omega) (by omega)]; exact c1, by rw [e _ _ (by omega) (by omega) (by omega) (by omega)]; exact c2, fun k t ht => by rw [e _ _ (by omega) (by omega) (by omega) (by omega)]; exact c3 k t ht⟩
  · rw [e _ _ (by omega) (by omega) (by omega) (by omega)]; exact h8
theorem xR_0 (h : xR T n r I) (e : r.1 = 0) : scX T n r.2 I ∧ r.2 ≤ n ∧ I 5 11 = am_i (-1) := h.1 e
theorem x_boat (hx : st_Rx R) (h : xB T n c p i X I R) (hw : tW T n p = (1 : Nat)) : ∃ I', am_E (d + 6) 94 0 [(0, .ref 30)] [] (I, J, R, 138) = some (none, (I', J, R, 138)) ∧ xQ T n c (sdBoat T n X p) I' ∧ xF c I I' := by
  obtain ⟨n16, hT, hS, h11, hX, hO, ⟨ac, hac, h83⟩, h2, hc⟩ := h
  have hp : p ≤ n := hO.1.2.2.2.2.2.2.2.2
  have b6 := hO.1.2.2.2.2.2.1
  have la60 := hO.1.2.1
  have i1 := hX.1.2.1
  have h82 := hX.2.2.2.2.2.2
  have sz := hO.1.2.2.2.2.2.2.2.1
  have r0 : xR T n (0, p) I := ⟨fun _ => ⟨hS, hp, h11⟩, fun e => absurd rfl e⟩
  by_cases full : X.bn.length = 6
  · have i1' : I c 1 = am_i 6 := by rw [i1, full]; rfl
    have h4 := hS.2.2.1
    obtain ⟨I1, a1, a2, a3⟩ := x_rF (J := J) (R := R) (e := 5) (pl := tAt T n p) (v := am_i (tAt T n p)) r0 (fun _ => rfl) (by decide) (by decide)
    have a1' : ∀ d, am_E (d + 1) 71 0 [(0, .ref 5), (1, .int (am_i 5)), (2, .int (am_i (tAt T n p)))] [] (I, J, R, 138) = some (none, (I1, J, R, 138)) := a1
    have ed : sdBoat T n X p = (5, tAt T n p, X) := if_pos full
    rw [ed]
    refine ⟨I1, ?_, ⟨a2, fun e => absurd e (by show ¬ ((5 : Nat) = 0); decide), ⟨X.sz, by omega, by rw [a3 _ _ (by omega)]; exact h82⟩, ac, hac, by rw [a3 _ _ (by omega)]; exact h83⟩, fun q j e => a3 q j (by omega)⟩
    rw [sg_X10_readBoat_0]
    simp (disch := first | assumption | omega) only [rX hx, ly_csx, ly_cax, ly_cf, ly_kd, ly_ln, ↓Bool.cond_decide, cond_true, cond_false, ↓bI_p, ↓bV_p, ↓bL_p, bIJ_s, bVJ_s, bLJ_s, ↓am_let_s, Nat.blt, Nat.ble, Bool.and_true, Bool.true_and, Bool.and_self, Int.cast_ofNat_Int, am_i_add, am_i_sub, am_i_mul, am_ok_i, am_i_cl, n_lt, n_le, n_eq, n_lt0, n_le0, n_0lt, n_0le, n_eq0, ne_eq, ↓reduceIte, not_true_eq_false, not_false_eq_true, and_true, true_and, and_false, false_and, eq_T, eq_F, lt_T, lt_F, le_T, le_F, qn_T, qn_F, and_F, b01_T, b01_F, e_isIn, Int32.toInt_toInt64, am_i_toInt, am_l_toInt, Int.toNat_natCast, Int.reduceToNat, Int.reduceAdd, Int.reduceSub, Int.reduceMul, Int.reduceNeg, Nat.reduceAdd, Nat.reduceMul, Nat.add_zero, Nat.mul_zero, Nat.zero_add, am_zb0, am_zb1, h2, rC hx hc, i1', h4, a1']
  · have blt : X.bn.length < 6 := by omega
    generalize hb : X.bn.length = b at *
    have cb : c + 1 ≠ 5 ∧ c + 5 ≠ 5 ∧ c ≠ 5 ∧ c + 1 ≠ c + 5 ∧ c + 1 ≠ c ∧ c + 5 ≠ c ∧ c ≠ 8 ∧ c ≠ 9 ∧ c + 1 ≠ 8 ∧ c + 5 ≠ 8 := by omega
    have n0 : ((b : Int) * 11 + 0).toNat = 11 * b := by omega
    have n1 : ((b : Int) * 11 + 1).toNat = 11 * b + 1 := by omega
    have n2 : ((b : Int) * 11 + 2).toNat = 11 * b + 2 := by omega
    obtain ⟨I1, a1, a2, a3⟩ := x_rX (d := d + 1) (J := J) hx hT r0 (fun _ => tW_4 (T := T) (n := n) (p := p) (by omega))
    rw [rS_0 rfl] at a2
    obtain ⟨s1, s2, s3⟩ := a2.1 rfl
    have T1 : txX T n I1 R := txX_c hT (fun q k e => a3 q k (by omega))
    have X1 : xCh c X I1 := xCh_c hX (fun q j e => a3 q j (by omega))
    obtain ⟨v1, I2, b1, b2, b3, b4⟩ := x_newName (d := d) (J := J) hx h2 hc T1 s2 s1 s3 X1 hO
    obtain ⟨r2, hr2⟩ : ∃ r2, r2 = aK T n (tE T n p) X := ⟨_, rfl⟩
    rw [← hr2] at b2 b3
    obtain ⟨K2, hK2⟩ : ∃ K2, K2 = am_up I2 (c + 1) b (am_i v1) := ⟨_, rfl⟩
    have k2 : ∀ q j, q ≠ 5 → ¬ (q = c + 1 ∧ j = b) → K2 q j = I q j := fun q j e1 e2 => by rw [hK2, am_up_o e2, b4 q j e1, a3 q j e1]
    have T2 : txX T n K2 R := txX_c hT (fun q k e => k2 q k (by omega) (by omega))
    have R2 : xR T n r2 K2 := xR_c b3 (fun j => by rw [hK2, am_up_o (by omega)])
    obtain ⟨I3, c1, c2, c3⟩ := x_rW (d := d) (J := J) hx T2 R2 (w := 2) (by decide)
    obtain ⟨r3, hr3⟩ : ∃ r3, r3 = rS r2 (fun p => aW T n p 2) := ⟨_, rfl⟩
    rw [← hr3] at c2
    have T3 : txX T n I3 R := txX_c T2 (fun q k e => c3 q k (by omega))
    obtain ⟨v2, I4, d1, d2, d3, d4, d5⟩ := x_rN (d := d) (J := J) hx T3 c2 (lo := 0) (hi := X.la) (by omega) (by omega)
    obtain ⟨r4, hr4⟩ : ∃ r4, r4 = rS r3 (fun p => aN T n p 0 X.la) := ⟨_, rfl⟩
    rw [← hr4] at d2 d3 d4
    obtain ⟨K4, hK4⟩ : ∃ K4, K4 = am_up I4 (c + 5) (11 * b) (am_i v2) := ⟨_, rfl⟩
    have k4 : ∀ q j, q ≠ 5 → ¬ (q = c + 5 ∧ j = 11 * b) → K4 q j = K2 q j := fun q j e1 e2 => by rw [hK4, am_up_o e2, d5 q j e1, c3 q j e1]
    have T4 : txX T n K4 R := txX_c T2 (fun q k e => k4 q k (by omega) (by omega))
    have R4 : xR T n r4 K4 := xR_c d4 (fun j => by rw [hK4, am_up_o (by omega)])
    obtain ⟨I5, f1, f2, f3⟩ := x_rW (d := d) (J := J) hx T4 R4 (w := 3) (by decide)
    obtain ⟨r5, hr5⟩ : ∃ r5, r5 = rS r4 (fun p => aW T n p 3) := ⟨_, rfl⟩
    rw [← hr5] at f2
    have T5 : txX T n I5 R := txX_c T4 (fun q k e => f3 q k (by omega))
    obtain ⟨v3, I6, g1, g2, g3, g4, g5⟩ := x_rN (d := d) (J := J) hx T5 f2 (lo := 0) (hi := 99) (by omega) (by omega)
    obtain ⟨r6, hr6⟩ : ∃ r6, r6 = rS r5 (fun p => aN T n p 0 99) := ⟨_, rfl⟩
    rw [← hr6] at g2 g3 g4
    obtain ⟨K6, hK6⟩ : ∃ K6, K6 = am_up I6 (c + 5) (11 * b + 1) (am_i v3) := ⟨_, rfl⟩
    have k6 : ∀ q j, q ≠ 5 → ¬ (q = c + 5 ∧ j = 11 * b + 1) → K6 q j = K4 q j := fun q j e1 e2 => by rw [hK6, am_up_o e2, g5 q j e1, f3 q j e1]
    have T6 : txX T n K6 R := txX_c T4 (fun q k e => k6 q k (by omega) (by omega))
    have R6 : xR T n r6 K6 := xR_c g4 (fun j => by rw [hK6, am_up_o (by omega)])
    obtain ⟨I7, m1, m2, m3⟩ := x_rW (d := d) (J := J) hx T6 R6 (w := 4) (by decide)
    obtain ⟨r7, hr7⟩ : ∃ r7, r7 = rS r6 (fun p => aW T n p 4) := ⟨_, rfl⟩
    rw [← hr7] at m2
    have T7 : txX T n I7 R := txX_c T6 (fun q k e => m3 q k (by omega))
    obtain ⟨v4, I8, o1, o2, o3, o4, o5⟩ := x_rN (d := d) (J := J) hx T7 m2 (lo := 0) (hi := 99) (by omega) (by omega)
    obtain ⟨r8, hr8⟩ : ∃ r8, r8 = rS r7 (fun p => aN T n p 0 99) := ⟨_, rfl⟩
    rw [← hr8] at o2 o3 o4
    obtain ⟨K8, hK8⟩ : ∃ K8, K8 = am_up I8 (c + 5) (11 * b + 2) (am_i v4) := ⟨_, rfl⟩
    have k8 : ∀ q j, q ≠ 5 → ¬ (q = c + 5 ∧ j = 11 * b + 2) → K8 q j = K6 q j := fun q j e1 e2 => by rw [hK8, am_up_o e2, o5 q j e1, m3 q j e1]
    obtain ⟨K9, hK9⟩ : ∃ K9, K9 = am_up K8 c 1 (am_i (b + 1 : Nat)) := ⟨_, rfl⟩
    have k9 : ∀ q j, q ≠ 5 → ¬ (q = c + 1 ∧ j = b) → ¬ (q = c + 5 ∧ (j = 11 * b ∨ j = 11 * b + 1 ∨ j = 11 * b + 2)) → ¬ (q = c ∧ j = 1) → K9 q j = I q j := fun q j e1 e2 e3 e4 => by
      rw [hK9, am_up_o e4, k8 q j e1 (by omega), k6 q j e1 (by omega), k4 q j e1 (by omega), k2 q j e1 e2]
    have R9 : xR T n r8 K9 := xR_c o4 (fun j => by rw [hK9, am_up_o (by omega), hK8, am_up_o (by omega)])
    obtain ⟨ch, ok⟩ := sdBoat_e (T := T) (n := n) (p := p) (X := X) (by omega) hr2 hr3 hr4 hr5 hr6 hr7 hr8
    have w3 : I3 c 0 = am_i X.la := by rw [c3 _ _ (by omega), k2 _ _ (by omega) (by omega)]; exact hX.1.1
    have w8 : K8 c 1 = am_i b := by rw [k8 _ _ (by omega) (by omega), k6 _ _ (by omega) (by omega), k4 _ _ (by omega) (by omega), k2 _ _ (by omega) (by omega)]; exact i1
    refine ⟨K9, ?_, ⟨?_, fun e => ?_, ⟨X.sz, by omega, by rw [k9 _ _ (by omega) (by omega) (by omega) (by omega)]; exact h82⟩, ac, hac, by rw [k9 _ _ (by omega) (by omega) (by omega) (by omega)]; exact h83⟩, fun q j e => k9 q j (by omega) (by omega) (by omega) (by omega)⟩
    · have b1' : am_E (d + 5) 93 0 [(0, .ref 30)] [] (I1, J, R, 138) = _ := b1
      have c1' : am_E (d + 5) 86 0 [(0, .ref 5), (1, .int (am_i 2))] [] (K2, J, R, 138) = _ := c1
      have d1' : am_E (d + 5) 87 0 [(0, .ref 5), (1, .int (am_i 0)), (2, .int (am_i X.la))] [] (I3, J, R, 138) = _ := d1
      have f1' : am_E (d + 5) 86 0 [(0, .ref 5), (1, .int (am_i 3))] [] (K4, J, R, 138) = _ := f1
      have g1' : am_E (d + 5) 87 0 [(0, .ref 5), (1, .int (am_i 0)), (2, .int (am_i 99))] [] (I5, J, R, 138) = _ := g1
      have m1' : am_E (d + 5) 86 0 [(0, .ref 5), (1, .int (am_i 4))] [] (K6, J, R, 138) = _ := m1
      have o1' : am_E (d + 5) 87 0 [(0, .ref 5), (1, .int (am_i 0)), (2, .int (am_i 99))] [] (I7, J, R, 138) = _ := o1
      rw [sg_X10_readBoat_0]
      simp (disch := first | assumption | omega) only [rX hx, ly_csx, ly_cax, ly_cf, ly_kd, ly_ln, ↓Bool.cond_decide, cond_true, cond_false, ↓bI_p, ↓bV_p, ↓bL_p, bIJ_s, bVJ_s, bLJ_s, ↓am_let_s, Nat.blt, Nat.ble, Bool.and_true, Bool.true_and, Bool.and_self, Int.cast_ofNat_Int, am_i_add, am_i_sub, am_i_mul, am_ok_i, am_i_cl, n_lt, n_le, n_eq, n_lt0, n_le0, n_0lt, n_0le, n_eq0, ne_eq, ↓reduceIte, not_true_eq_false, not_false_eq_true, and_true, true_and, and_false, false_and, eq_T, eq_F, lt_T, lt_F, le_T, le_F, qn_T, qn_F, and_F, b01_T, b01_F, e_isIn, Int32.toInt_toInt64, am_i_toInt, am_l_toInt, Int.toNat_natCast, Int.reduceToNat, Int.reduceAdd, Int.reduceSub, Int.reduceMul, Int.reduceNeg, Nat.reduceAdd, Nat.reduceMul, Nat.add_zero, Nat.mul_zero, Nat.zero_add, am_zb0, am_zb1, h2, rC hx hc, rCa hc, i1, a1, b1', n0, n1, n2, ← hK2, c1', w3, d1', ← hK4, f1', g1', ← hK6, m1', o1', ← hK8, w8, am_i_s, ← hK9]
    · rw [ch]
      by_cases q : r8.1 = 0
      · rw [if_pos q]
        have : ((0 : Nat), r8.2) = r8 := Prod.ext q.symm rfl
        show xR T n (0, r8.2) K9
        rw [this]; exact R9
      · rw [if_neg q]
        exact R9
    · rw [ch] at e ⊢
      by_cases q : r8.1 = 0
      · rw [if_pos q]
        obtain ⟨q2, q3, q4, q5, q6, q7⟩ := ok q
        refine xCh_boat hc hX (fun x hx => (hO.2.1 x hx).2.2.2.1) hb.symm blt ?_ ?_ ?_ ?_ ?_ k9
        · rw [hK9, am_up_o (by omega), k8 _ _ (by omega) (by omega), k6 _ _ (by omega) (by omega), k4 _ _ (by omega) (by omega), hK2, am_up_e, b2 q2]
        · rw [hK9, am_up_o (by omega), k8 _ _ (by omega) (by omega), k6 _ _ (by omega) (by omega), hK4, am_up_e, d2 q4]
        · rw [hK9, am_up_o (by omega), k8 _ _ (by omega) (by omega), hK6, am_up_e, g2 q6]
        · rw [hK9, am_up_o (by omega), hK8, am_up_e, o2 q]
        · rw [hK9, am_up_e]
      · rw [if_neg q] at e
        exact absurd e q
end XBO
