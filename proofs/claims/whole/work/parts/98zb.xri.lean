/-! ===== statements: the class; rider, wolf ===== -/
section XRI
variable {d : Nat} {J : tJ} {R : tR} {T : Nat → Nat} {n p i c : Nat} {I I' : tI} {X : sSt} {r : Nat × Nat}
theorem xCh_rider {b v2 : Nat} {l : List Nat} (hc : c = 10 ∨ c = 20) (h : xCh c X I) (hb : b = X.rd.length) (e1 : I' (c + 2) b = am_i (pk5 l : Nat)) (e2 : I' (c + 3) b = am_i v2) (e5 : I' c 2 = am_i (b + 1 : Nat)) (e : ∀ q j, q ≠ 5 → ¬ (q = c + 2 ∧ j = b) → ¬ (q = c + 3 ∧ j = b) → ¬ (q = c ∧ j = 2) → I' q j = I q j) : xCh c (X.la, X.wd, X.sq, X.nw, X.sz, X.bn, X.rd ++ [(l, v2)], X.wf, X.fo) I' := by
  obtain ⟨⟨a0, a1, a2, a3, a4, a5⟩, hbn, ⟨hz, hz2⟩, hr, hw, hf, h8⟩ := h
  subst hb
  refine ⟨⟨?_, ?_, ?_, ?_, ?_, ?_⟩, fun b x hx => ?_, ⟨fun b h1 h2 => ?_, fun b hb => ?_⟩, fun r y hy => ?_, fun m hm => ?_, fun f hf3 => ⟨fun q => ?_, fun a l q => ?_⟩, ?_⟩
  · rw [e _ _ (by omega) (by omega) (by omega) (by omega)]; exact a0
  · rw [e _ _ (by omega) (by omega) (by omega) (by omega)]; exact a1
  · rw [e5]
    show _ = am_i ((X.rd ++ [(l, v2)]).length : Nat)
    rw [List.length_append]; rfl
  · rw [e _ _ (by omega) (by omega) (by omega) (by omega)]; exact a3
  · rw [e _ _ (by omega) (by omega) (by omega) (by omega)]; exact a4
  · rw [e _ _ (by omega) (by omega) (by omega) (by omega)]; exact a5
  · obtain ⟨b1, b2, b3, b4, b5, b6⟩ := hbn b x hx
    exact ⟨by rw [e _ _ (by omega) (by omega) (by omega) (by omega)]; exact b1, by rw [e _ _ (by omega) (by omega) (by omega) (by omega)]; exact b2, by rw [e _ _ (by omega) (by omega) (by omega) (by omega)]; exact b3, by rw [e _ _ (by omega) (by omega) (by omega) (by omega)]; exact b4, by rw [e _ _ (by omega) (by omega) (by omega) (by omega)]; exact b5, fun k v hv => by
        rw [e _ _ (by omega) (by omega) (by omega) (by omega)]
        exact b6 k v hv⟩
  · rw [e _ _ (by omega) (by omega) (by omega) (by omega)]
    exact hz b h1 h2
  · rw [e _ _ (by omega) (by omega) (by omega) (by omega), e _ _ (by omega) (by omega) (by omega) (by omega)]
    exact hz2 b hb
  · have hy' : (X.rd ++ [(l, v2)])[r]? = some y := hy
    by_cases q : r < X.rd.length
    · rw [List.getElem?_append_left q] at hy'
      rw [e _ _ (by omega) (by omega) (by omega) (by omega), e _ _ (by omega) (by omega) (by omega) (by omega)]
      exact hr r y hy'
    · rw [List.getElem?_append_right (by omega)] at hy'
      have hk0 : r - X.rd.length = 0 := by
        cases hk : r - X.rd.length with
        | zero => rfl
        | succ m => rw [hk] at hy'; simp at hy'
      rw [hk0] at hy'
      have ex : (l, v2) = y := by simpa using hy'
      subst ex
      obtain rfl : r = X.rd.length := by omega
      exact ⟨e1, e2⟩
  · rw [e _ _ (by omega) (by omega) (by omega) (by omega)]; exact hw m hm
  · rw [e _ _ (by omega) (by omega) (by omega) (by omega), e _ _ (by omega) (by omega) (by omega) (by omega)]
    exact (hf f hf3).1 q
  · obtain ⟨c1, c2, c3⟩ := (hf f hf3).2 a l q
    exact ⟨by rw [e _ _ (by omega) (by omega) (by omega) (by omega)]; exact c1, by rw [e _ _ (by omega) (by omega) (by omega) (by omega)]; exact c2, fun k t ht => by rw [e _ _ (by omega) (by omega) (by omega) (by omega)]; exact c3 k t ht⟩
  · rw [e _ _ (by omega) (by omega) (by omega) (by omega)]; exact h8
theorem x_rider (hx : st_Rx R) (h : xB T n c p i X I R) (hw : tW T n p = (7 : Nat)) : ∃ I', am_E (d + 6) 97 0 [(0, .ref 30)] [] (I, J, R, 138) = some (none, (I', J, R, 138)) ∧ xQ T n c (sdRider T n X p) I' ∧ xF c I I' := by
  obtain ⟨n16, hT, hS, h11, hX, hO, ⟨ac, hac, h83⟩, h2, hc⟩ := h
  have hp : p ≤ n := hO.1.2.2.2.2.2.2.2.2
  have b6 := hO.1.2.2.2.2.2.2.1
  have i1 := hX.1.2.2.1
  have h82 := hX.2.2.2.2.2.2
  have sz := hO.1.2.2.2.2.2.2.2.1
  have r0 : xR T n (0, p) I := ⟨fun _ => ⟨hS, hp, h11⟩, fun e => absurd rfl e⟩
  by_cases full : X.rd.length = 6
  · have i1' : I c 2 = am_i 6 := by rw [i1, full]; rfl
    have h4 := hS.2.2.1
    obtain ⟨I1, a1, a2, a3⟩ := x_rF (J := J) (R := R) (e := 5) (pl := tAt T n p) (v := am_i (tAt T n p)) r0 (fun _ => rfl) (by decide) (by decide)
    have a1' : ∀ d, am_E (d + 1) 71 0 [(0, .ref 5), (1, .int (am_i 5)), (2, .int (am_i (tAt T n p)))] [] (I, J, R, 138) = some (none, (I1, J, R, 138)) := a1
    have ed : sdRider T n X p = (5, tAt T n p, X) := if_pos full
    rw [ed]
    refine ⟨I1, ?_, ⟨a2, fun e => absurd e (by show ¬ ((5 : Nat) = 0); decide), ⟨X.sz, by omega, by rw [a3 _ _ (by omega)]; exact h82⟩, ac, hac, by rw [a3 _ _ (by omega)]; exact h83⟩, fun q j e => a3 q j (by omega)⟩
    rw [sg_X10_readRider_0]
    simp (disch := first | assumption | omega) only [rX hx, ly_csx, ly_cax, ly_cf, ly_kd, ly_ln, ↓Bool.cond_decide, cond_true, cond_false, ↓bI_p, ↓bV_p, ↓bL_p, bIJ_s, bVJ_s, bLJ_s, ↓am_let_s, Nat.blt, Nat.ble, Bool.and_true, Bool.true_and, Bool.and_self, Int.cast_ofNat_Int, am_i_add, am_i_sub, am_i_mul, am_ok_i, am_i_cl, n_lt, n_le, n_eq, n_lt0, n_le0, n_0lt, n_0le, n_eq0, ne_eq, ↓reduceIte, not_true_eq_false, not_false_eq_true, and_true, true_and, and_false, false_and, eq_T, eq_F, lt_T, lt_F, le_T, le_F, qn_T, qn_F, and_F, b01_T, b01_F, e_isIn, Int32.toInt_toInt64, am_i_toInt, am_l_toInt, Int.toNat_natCast, Int.reduceToNat, Int.reduceAdd, Int.reduceSub, Int.reduceMul, Int.reduceNeg, Nat.reduceAdd, Nat.reduceMul, Nat.add_zero, Nat.mul_zero, Nat.zero_add, am_zb0, am_zb1, h2, rC hx hc, i1', h4, a1']
  · have blt : X.rd.length < 6 := by omega
    generalize hb : X.rd.length = b at *
    obtain ⟨I1, a1, a2, a3⟩ := x_rX (d := d + 1) (J := J) hx hT r0 (fun _ => tW_4 (T := T) (n := n) (p := p) (by omega))
    rw [rS_0 rfl] at a2
    obtain ⟨s1, s2, s3⟩ := a2.1 rfl
    have T1 : txX T n I1 R := txX_c hT (fun q k e => a3 q k (by omega))
    have X1 : xCh c X I1 := xCh_c hX (fun q j e => a3 q j (by omega))
    obtain ⟨v1, I2, b1, b2, b3, b4⟩ := x_newName (d := d) (J := J) hx h2 hc T1 s2 s1 s3 X1 hO
    obtain ⟨r2, hr2⟩ : ∃ r2, r2 = aK T n (tE T n p) X := ⟨_, rfl⟩
    rw [← hr2] at b2 b3
    obtain ⟨K2, hK2⟩ : ∃ K2, K2 = am_up I2 (c + 2) b (am_i v1) := ⟨_, rfl⟩
    have k2 : ∀ q j, q ≠ 5 → ¬ (q = c + 2 ∧ j = b) → K2 q j = I q j := fun q j e1 e2 => by rw [hK2, am_up_o e2, b4 q j e1, a3 q j e1]
    have T2 : txX T n K2 R := txX_c hT (fun q k e => k2 q k (by omega) (by omega))
    have R2 : xR T n r2 K2 := xR_c b3 (fun j => by rw [hK2, am_up_o (by omega)])
    obtain ⟨I3, c1, c2, c3⟩ := x_rW (d := d) (J := J) hx T2 R2 (w := 8) (by decide)
    obtain ⟨r3, hr3⟩ : ∃ r3, r3 = rS r2 (fun p => aW T n p 8) := ⟨_, rfl⟩
    rw [← hr3] at c2
    have T3 : txX T n I3 R := txX_c T2 (fun q k e => c3 q k (by omega))
    obtain ⟨v2, I4, d1, d2, d3, d4, d5⟩ := x_rN (d := d) (J := J) hx T3 c2 (lo := 0) (hi := 7) (by omega) (by omega)
    obtain ⟨r4, hr4⟩ : ∃ r4, r4 = rS r3 (fun p => aN T n p 0 7) := ⟨_, rfl⟩
    rw [← hr4] at d2 d3 d4
    obtain ⟨K4, hK4⟩ : ∃ K4, K4 = am_up I4 (c + 3) b (am_i v2) := ⟨_, rfl⟩
    have k4 : ∀ q j, q ≠ 5 → ¬ (q = c + 3 ∧ j = b) → K4 q j = K2 q j := fun q j e1 e2 => by rw [hK4, am_up_o e2, d5 q j e1, c3 q j e1]
    obtain ⟨K9, hK9⟩ : ∃ K9, K9 = am_up K4 c 2 (am_i (b + 1 : Nat)) := ⟨_, rfl⟩
    have k9 : ∀ q j, q ≠ 5 → ¬ (q = c + 2 ∧ j = b) → ¬ (q = c + 3 ∧ j = b) → ¬ (q = c ∧ j = 2) → K9 q j = I q j := fun q j e1 e2 e3 e4 => by
      rw [hK9, am_up_o e4, k4 q j e1 e3, k2 q j e1 e2]
    have R9 : xR T n r4 K9 := xR_c d4 (fun j => by rw [hK9, am_up_o (by omega), hK4, am_up_o (by omega)])
    obtain ⟨ch, ok⟩ := sdRider_e (T := T) (n := n) (p := p) (X := X) (by omega) hr2 hr3 hr4
    have w8 : K4 c 2 = am_i b := by rw [k4 _ _ (by omega) (by omega), k2 _ _ (by omega) (by omega)]; exact i1
    refine ⟨K9, ?_, ⟨?_, fun e => ?_, ⟨X.sz, by omega, by rw [k9 _ _ (by omega) (by omega) (by omega) (by omega)]; exact h82⟩, ac, hac, by rw [k9 _ _ (by omega) (by omega) (by omega) (by omega)]; exact h83⟩, fun q j e => k9 q j (by omega) (by omega) (by omega) (by omega)⟩
    · have b1' : am_E (d + 5) 93 0 [(0, .ref 30)] [] (I1, J, R, 138) = _ := b1
      have c1' : am_E (d + 5) 86 0 [(0, .ref 5), (1, .int (am_i 8))] [] (K2, J, R, 138) = _ := c1
      have d1' : am_E (d + 5) 87 0 [(0, .ref 5), (1, .int (am_i 0)), (2, .int (am_i 7))] [] (I3, J, R, 138) = _ := d1
      rw [sg_X10_readRider_0]
      simp (disch := first | assumption | omega) only [rX hx, ly_csx, ly_cax, ly_cf, ly_kd, ly_ln, ↓Bool.cond_decide, cond_true, cond_false, ↓bI_p, ↓bV_p, ↓bL_p, bIJ_s, bVJ_s, bLJ_s, ↓am_let_s, Nat.blt, Nat.ble, Bool.and_true, Bool.true_and, Bool.and_self, Int.cast_ofNat_Int, am_i_add, am_i_sub, am_i_mul, am_ok_i, am_i_cl, n_lt, n_le, n_eq, n_lt0, n_le0, n_0lt, n_0le, n_eq0, ne_eq, ↓reduceIte, not_true_eq_false, not_false_eq_true, and_true, true_and, and_false, false_and, eq_T, eq_F, lt_T, lt_F, le_T, le_F, qn_T, qn_F, and_F, b01_T, b01_F, e_isIn, Int32.toInt_toInt64, am_i_toInt, am_l_toInt, Int.toNat_natCast, Int.reduceToNat, Int.reduceAdd, Int.reduceSub, Int.reduceMul, Int.reduceNeg, Nat.reduceAdd, Nat.reduceMul, Nat.add_zero, Nat.mul_zero, Nat.zero_add, am_zb0, am_zb1, h2, rC hx hc, rCa hc, i1, a1, b1', ← hK2, c1', d1', ← hK4, w8, am_i_s, ← hK9]
    · rw [ch]
      by_cases q : r4.1 = 0
      · rw [if_pos q]
        have : ((0 : Nat), r4.2) = r4 := Prod.ext q.symm rfl
        show xR T n (0, r4.2) K9
        rw [this]; exact R9
      · rw [if_neg q]
        exact R9
    · rw [ch] at e ⊢
      by_cases q : r4.1 = 0
      · rw [if_pos q]
        obtain ⟨q2, q3⟩ := ok q
        refine xCh_rider hc hX hb.symm ?_ ?_ ?_ k9
        · rw [hK9, am_up_o (by omega), k4 _ _ (by omega) (by omega), hK2, am_up_e, b2 q2]
        · rw [hK9, am_up_o (by omega), hK4, am_up_e, d2 q]
        · rw [hK9, am_up_e]
      · rw [if_neg q] at e
        exact absurd e q
/-- a wolf more -/
theorem wo_or {w v : Nat} (hw : w < 256) (hv : v < 8) (h : w / 2 ^ v % 2 = 0) : (w ||| 2 ^ v) = w + 2 ^ v := by
  have key : ∀ (w : Fin 256) (v : Fin 8), w.val / 2 ^ v.val % 2 = 0 → (w.val ||| 2 ^ v.val) = w.val + 2 ^ v.val := by decide +kernel
  exact key ⟨w, hw⟩ ⟨v, hv⟩ h
theorem wo_b {w v : Nat} (hw : w < 256) (hv : v < 8) (h : w / 2 ^ v % 2 = 0) : w + 2 ^ v < 256 ∧ ∀ u, u < 8 → (w + 2 ^ v) / 2 ^ u % 2 = if u = v then 1 else w / 2 ^ u % 2 := by
  have key : ∀ (w : Fin 256) (v : Fin 8), w.val / 2 ^ v.val % 2 = 0 → w.val + 2 ^ v.val < 256 ∧ ∀ u : Fin 8, (w.val + 2 ^ v.val) / 2 ^ u.val % 2 = if u.val = v.val then 1 else w.val / 2 ^ u.val % 2 := by decide +kernel
  obtain ⟨k1, k2⟩ := key ⟨w, hw⟩ ⟨v, hv⟩ h
  exact ⟨k1, fun u hu => k2 ⟨u, hu⟩⟩
theorem x_addWolf (hx : st_Rx R) (hc : c = 10 ∨ c = 20) {m v w nw : Nat} (hm : m ≤ 60) (hv : v < 8) (hw : w < 256) (h : I (c + 6) m = am_i w) (h3 : I c 3 = am_i nw) (h0 : w / 2 ^ v % 2 = 0) : am_E (d + 1) 7 0 [(0, .ref c), (1, .int (am_i m)), (2, .int (am_i v))] [] (I, J, R, 138) = some (none, (am_up (am_up I (c + 6) m (am_i (w + 2 ^ v : Nat))) c 3 (am_i (nw + 1 : Nat)), J, R, 138)) := by
  have hv' : v < 32 := by omega
  have s1 : am_i 1 <<< am_i (v : Int) = am_i ((2 ^ v : Nat) : Int) := by
    have := s_shl (a := 1) hv'
    rw [Nat.one_mul] at this
    exact this
  have so : am_i (w : Int) ||| am_i ((2 ^ v : Nat) : Int) = am_i ((w + 2 ^ v : Nat) : Int) := by rw [s_or, wo_or hw hv h0]
  have u3 : ∀ x, am_up I (c + 6) m x c 3 = am_i nw := fun x => by rw [am_up_o (by omega)]; exact h3
  rw [sg_X1_addWolf_0]
  simp (disch := first | assumption | omega) only [rX hx, ly_csx, ly_cax, ly_cf, ly_kd, ly_ln, ↓Bool.cond_decide, cond_true, cond_false, ↓bI_p, ↓bV_p, ↓bL_p, bIJ_s, bVJ_s, bLJ_s, ↓am_let_s, Nat.blt, Nat.ble, Bool.and_true, Bool.true_and, Bool.and_self, Int.cast_ofNat_Int, am_i_add, am_i_sub, am_i_mul, am_ok_i, am_i_cl, n_lt, n_le, n_eq, n_lt0, n_le0, n_0lt, n_0le, n_eq0, ne_eq, ↓reduceIte, not_true_eq_false, not_false_eq_true, and_true, true_and, and_false, false_and, eq_T, eq_F, lt_T, lt_F, le_T, le_F, qn_T, qn_F, and_F, b01_T, b01_F, e_isIn, Int32.toInt_toInt64, am_i_toInt, am_l_toInt, Int.toNat_natCast, Int.reduceToNat, Int.reduceAdd, Int.reduceSub, Int.reduceMul, Int.reduceNeg, Nat.reduceAdd, Nat.reduceMul, Nat.add_zero, Nat.mul_zero, Nat.zero_add, am_zb0, am_zb1, rC hx hc, rCa hc, h, s_31 hv', s1, so, u3, am_i_s, sg_X1_addWolf_32]
theorem xCh_wolf {m v : Nat} (hc : c = 10 ∨ c = 20) (h : xCh c X I) (e1 : I' (c + 6) m = am_i (X.wf m + 2 ^ v : Nat)) (e5 : I' c 3 = am_i (X.nw + 1 : Nat)) (e : ∀ q j, q ≠ 5 → ¬ (q = c + 6 ∧ j = m) → ¬ (q = c ∧ j = 3) → I' q j = I q j) : xCh c (X.la, X.wd, X.sq, X.nw + 1, X.sz, X.bn, X.rd, (fun k => if k = m then X.wf k + 2 ^ v else X.wf k), X.fo) I' := by
  obtain ⟨⟨a0, a1, a2, a3, a4, a5⟩, hbn, ⟨hz, hz2⟩, hr, hw, hf, h8⟩ := h
  refine ⟨⟨?_, ?_, ?_, ?_, ?_, ?_⟩, fun b x hx => ?_, ⟨fun b h1 h2 => ?_, fun b hb => ?_⟩, fun r y hy => ?_, fun k hk => ?_, fun f hf3 => ⟨fun q => ?_, fun a l q => ?_⟩, ?_⟩
  · rw [e _ _ (by omega) (by omega) (by omega)]; exact a0
  · rw [e _ _ (by omega) (by omega) (by omega)]; exact a1
  · rw [e _ _ (by omega) (by omega) (by omega)]; exact a2
  · exact e5
  · rw [e _ _ (by omega) (by omega) (by omega)]; exact a4
  · rw [e _ _ (by omega) (by omega) (by omega)]; exact a5
  · obtain ⟨b1, b2, b3, b4, b5, b6⟩ := hbn b x hx
    exact ⟨by rw [e _ _ (by omega) (by omega) (by omega)]; exact b1, by rw [e _ _ (by omega) (by omega) (by omega)]; exact b2, by rw [e _ _ (by omega) (by omega) (by omega)]; exact b3, by rw [e _ _ (by omega) (by omega) (by omega)]; exact b4, by rw [e _ _ (by omega) (by omega) (by omega)]; exact b5, fun k v hv => by
        rw [e _ _ (by omega) (by omega) (by omega)]
        exact b6 k v hv⟩
  · rw [e _ _ (by omega) (by omega) (by omega)]
    exact hz b h1 h2
  · rw [e _ _ (by omega) (by omega) (by omega), e _ _ (by omega) (by omega) (by omega)]
    exact hz2 b hb
  · rw [e _ _ (by omega) (by omega) (by omega), e _ _ (by omega) (by omega) (by omega)]
    exact hr r y hy
  · show I' (c + 6) k = am_i ((if k = m then X.wf k + 2 ^ v else X.wf k : Nat) : Int)
    by_cases q : k = m
    · rw [if_pos q, q]; exact e1
    · rw [if_neg q, e _ _ (by omega) (by omega) (by omega)]; exact hw k hk
  · rw [e _ _ (by omega) (by omega) (by omega), e _ _ (by omega) (by omega) (by omega)]
    exact (hf f hf3).1 q
  · obtain ⟨c1, c2, c3⟩ := (hf f hf3).2 a l q
    exact ⟨by rw [e _ _ (by omega) (by omega) (by omega)]; exact c1, by rw [e _ _ (by omega) (by omega) (by omega)]; exact c2, fun k t ht => by rw [e _ _ (by omega) (by omega) (by omega)]; exact c3 k t ht⟩
  · rw [e _ _ (by omega) (by omega) (by omega)]; exact h8
theorem x_wolf (hx : st_Rx R) (h : xB T n c p i X I R) (hw : tW T n p = (6 : Nat)) : ∃ I', am_E (d + 6) 96 0 [(0, .ref 30)] [] (I, J, R, 138) = some (none, (I', J, R, 138)) ∧ xQ T n c (sdWolf T n X p) I' ∧ xF c I I' := by
  obtain ⟨n16, hT, hS, h11, hX, hO, ⟨ac, hac, h83⟩, h2, hc⟩ := h
  have hp : p ≤ n := hO.1.2.2.2.2.2.2.2.2
  have la60 := hO.1.2.1
  have h82 := hX.2.2.2.2.2.2
  have sz := hO.1.2.2.2.2.2.2.2.1
  have r0 : xR T n (0, p) I := ⟨fun _ => ⟨hS, hp, h11⟩, fun e => absurd rfl e⟩
  obtain ⟨I1, a1, a2, a3⟩ := x_rX (d := d + 1) (J := J) hx hT r0 (fun _ => tW_4 (T := T) (n := n) (p := p) (by omega))
  rw [rS_0 rfl] at a2
  have T1 : txX T n I1 R := txX_c hT (fun q k e => a3 q k (by omega))
  obtain ⟨v1, I2, b1, b2, b3, b4, b5⟩ := x_rN (d := d) (J := J) hx T1 a2 (lo := 0) (hi := X.la) (by omega) (by omega)
  obtain ⟨r2, hr2⟩ : ∃ r2, r2 = aN T n (tE T n p) 0 X.la := ⟨_, rfl⟩
  rw [rS_0 rfl] at b2 b3 b4
  have hr2' : aN T n ((0, tE T n p) : Nat × Nat).2 0 X.la = r2 := hr2.symm
  rw [hr2'] at b2 b3 b4
  have T2 : txX T n I2 R := txX_c T1 (fun q k e => b5 q k (by omega))
  obtain ⟨v2, I3, c1, c2, c3, c4, c5⟩ := x_rN (d := d) (J := J) hx T2 b4 (lo := 0) (hi := 7) (by omega) (by omega)
  obtain ⟨r3, hr3⟩ : ∃ r3, r3 = rS r2 (fun p => aN T n p 0 7) := ⟨_, rfl⟩
  rw [← hr3] at c2 c3 c4
  have te : tE T n p ≤ n := (a2.1 rfl).2.1
  have nb1 := aN_b (T := T) (lo := 0) (hi := X.la) te
  rw [← hr2] at nb1
  have v1b : v1 ≤ 60 := by
    by_cases q : r2.1 = 0
    · have := nb1.1 q; rw [b2 q]; show tV T n (tE T n p) ≤ 60; omega
    · rw [b3 q]; omega
  have v2b : v2 < 8 := by
    by_cases q : r3.1 = 0
    · have q2 : r2.1 = 0 := rS_1 (k := fun p => aN T n p 0 7) (by rw [← hr3]; exact q)
      have nb2 := aN_b (T := T) (lo := 0) (hi := 7) (nb1.1 q2).2.2.2.2.2.2
      rw [rS_0 q2] at hr3
      rw [← hr3] at nb2
      have := nb2.1 q; rw [c2 q]; omega
    · rw [c3 q]; omega
  have o3 : ∀ q j, q ≠ 5 → I3 q j = I q j := fun q j e => by rw [c5 q j e, b5 q j e, a3 q j e]
  have wv := hO.2.2.2.2.1 v1
  have w6 : I3 (c + 6) v1 = am_i (X.wf v1) := by rw [o3 _ _ (by omega)]; exact hX.2.2.2.2.1 v1 v1b
  have iw := fun d => e_isWolf (d := d) (J := J) hx hc v1b v2b wv w6
  have bit : X.wf v1 / 2 ^ v2 % 2 < 2 := Nat.mod_lt _ (by decide)
  have w0 : I1 c 0 = am_i X.la := by rw [a3 _ _ (by omega)]; exact hX.1.1
  have b1' : am_E (d + 5) 87 0 [(0, .ref 5), (1, .int (am_i 0)), (2, .int (am_i X.la))] [] (I1, J, R, 138) = _ := b1
  have c1' : am_E (d + 5) 87 0 [(0, .ref 5), (1, .int (am_i 0)), (2, .int (am_i 7))] [] (I2, J, R, 138) = _ := c1
  have red : sdWolf T n X p = (if r3.1 = 0 then (if X.wf (tV T n (tE T n p)) / 2 ^ tV T n r2.2 % 2 = 1 then (2, tAt T n r2.2, X) else (0, r3.2, (X.la, X.wd, X.sq, X.nw + 1, X.sz, X.bn, X.rd, (fun m => if m = tV T n (tE T n p) then X.wf m + 2 ^ tV T n r2.2 else X.wf m), X.fo))) else (r3.1, r3.2, X)) := by
    unfold sdWolf
    rw [← hr2]
    by_cases q2 : r2.1 = 0
    · rw [sI_0 q2]
      rw [rS_0 q2] at hr3
      rw [← hr3]
      by_cases q3 : r3.1 = 0
      · rw [sI_0 q3, if_pos q3]
      · rw [sI_n q3, if_neg q3]
    · rw [rS_n q2] at hr3
      rw [sI_n q2, hr3, if_neg q2]
  by_cases q : X.wf v1 / 2 ^ v2 % 2 = 1
  · rw [q] at iw
    have iw' : ∀ d, am_E (d + 1) 6 0 [(0, .ref c), (1, .int (am_i v1)), (2, .int (am_i v2))] [] (I3, J, R, 138) = some (some (.int (am_i 1)), (I3, J, R, 138)) := iw
    obtain ⟨I4, f1, f2, f3⟩ := x_rF (J := J) (R := R) (e := 2) (pl := tAt T n r2.2) (v := I2 5 4) c4 (fun e => by
      have q2 : r2.1 = 0 := rS_1 (k := fun p => aN T n p 0 7) (by rw [← hr3]; exact e)
      exact (b4.1 q2).1.2.2.1) (by decide) (by decide)
    have f1' : ∀ d, am_E (d + 1) 71 0 [(0, .ref 5), (1, .int (am_i 2)), (2, .int (I2 5 4))] [] (I3, J, R, 138) = some (none, (I4, J, R, 138)) := f1
    have o4 : ∀ q j, q ≠ 5 → I4 q j = I q j := fun q j e => by rw [f3 q j e, o3 q j e]
    refine ⟨I4, ?_, ⟨?_, fun e => ?_, ⟨X.sz, by omega, by rw [o4 _ _ (by omega)]; exact h82⟩, ac, hac, by rw [o4 _ _ (by omega)]; exact h83⟩, fun q j e => o4 q j (by omega)⟩
    · rw [sg_X10_readWolf_0]
      simp (disch := first | assumption | omega) only [rX hx, ly_csx, ly_cax, ly_cf, ly_kd, ly_ln, ↓Bool.cond_decide, cond_true, cond_false, ↓bI_p, ↓bV_p, ↓bL_p, bIJ_s, bVJ_s, bLJ_s, ↓am_let_s, Nat.blt, Nat.ble, Bool.and_true, Bool.true_and, Bool.and_self, Int.cast_ofNat_Int, am_i_add, am_i_sub, am_i_mul, am_ok_i, am_i_cl, n_lt, n_le, n_eq, n_lt0, n_le0, n_0lt, n_0le, n_eq0, ne_eq, ↓reduceIte, not_true_eq_false, not_false_eq_true, and_true, true_and, and_false, false_and, eq_T, eq_F, lt_T, lt_F, le_T, le_F, qn_T, qn_F, and_F, b01_T, b01_F, e_isIn, Int32.toInt_toInt64, am_i_toInt, am_l_toInt, Int.toNat_natCast, Int.reduceToNat, Int.reduceAdd, Int.reduceSub, Int.reduceMul, Int.reduceNeg, Nat.reduceAdd, Nat.reduceMul, Nat.add_zero, Nat.mul_zero, Nat.zero_add, am_zb0, am_zb1, h2, rC hx hc, a1, w0, b1', c1', iw', f1']
    · rw [red]
      by_cases q3 : r3.1 = 0
      · have q2 : r2.1 = 0 := rS_1 (k := fun p => aN T n p 0 7) (by rw [← hr3]; exact q3)
        rw [if_pos q3, if_pos (by rw [← c2 q3]; have := b2 q2; rw [← (show v1 = tV T n (tE T n p) from this)]; exact q)]
        rw [rS_0 q3] at f2
        exact f2
      · rw [if_neg q3]
        rw [rS_n q3] at f2
        exact f2
    · rw [red] at e
      by_cases q3 : r3.1 = 0
      · have q2 : r2.1 = 0 := rS_1 (k := fun p => aN T n p 0 7) (by rw [← hr3]; exact q3)
        rw [if_pos q3, if_pos (by rw [← c2 q3]; have := b2 q2; rw [← (show v1 = tV T n (tE T n p) from this)]; exact q)] at e
        exact absurd e (by show ¬ ((2 : Nat) = 0); decide)
      · rw [if_neg q3] at e
        exact absurd e q3
  · have q0 : X.wf v1 / 2 ^ v2 % 2 = 0 := by omega
    rw [q0] at iw
    have iw' : ∀ d, am_E (d + 1) 6 0 [(0, .ref c), (1, .int (am_i v1)), (2, .int (am_i v2))] [] (I3, J, R, 138) = some (some (.int (am_i 0)), (I3, J, R, 138)) := iw
    have aw := fun d => x_addWolf (d := d) (J := J) (nw := X.nw) hx hc v1b v2b wv w6 (by rw [o3 _ _ (by omega)]; exact hX.1.2.2.2.1) q0
    obtain ⟨K9, hK9⟩ : ∃ K9, K9 = am_up (am_up I3 (c + 6) v1 (am_i (X.wf v1 + 2 ^ v2 : Nat))) c 3 (am_i (X.nw + 1 : Nat)) := ⟨_, rfl⟩
    rw [← hK9] at aw
    have k9 : ∀ q j, q ≠ 5 → ¬ (q = c + 6 ∧ j = v1) → ¬ (q = c ∧ j = 3) → K9 q j = I q j := fun q j e1 e2 e3 => by rw [hK9, am_up_o e3, am_up_o e2, o3 q j e1]
    have R9 : xR T n r3 K9 := xR_c c4 (fun j => by rw [hK9, am_up_o (by omega), am_up_o (by omega)])
    refine ⟨K9, ?_, ⟨?_, fun e => ?_, ⟨X.sz, by omega, by rw [k9 _ _ (by omega) (by omega) (by omega)]; exact h82⟩, ac, hac, by rw [k9 _ _ (by omega) (by omega) (by omega)]; exact h83⟩, fun q j e => k9 q j (by omega) (by omega) (by omega)⟩
    · rw [sg_X10_readWolf_0]
      simp (disch := first | assumption | omega) only [rX hx, ly_csx, ly_cax, ly_cf, ly_kd, ly_ln, ↓Bool.cond_decide, cond_true, cond_false, ↓bI_p, ↓bV_p, ↓bL_p, bIJ_s, bVJ_s, bLJ_s, ↓am_let_s, Nat.blt, Nat.ble, Bool.and_true, Bool.true_and, Bool.and_self, Int.cast_ofNat_Int, am_i_add, am_i_sub, am_i_mul, am_ok_i, am_i_cl, n_lt, n_le, n_eq, n_lt0, n_le0, n_0lt, n_0le, n_eq0, ne_eq, ↓reduceIte, not_true_eq_false, not_false_eq_true, and_true, true_and, and_false, false_and, eq_T, eq_F, lt_T, lt_F, le_T, le_F, qn_T, qn_F, and_F, b01_T, b01_F, e_isIn, Int32.toInt_toInt64, am_i_toInt, am_l_toInt, Int.toNat_natCast, Int.reduceToNat, Int.reduceAdd, Int.reduceSub, Int.reduceMul, Int.reduceNeg, Nat.reduceAdd, Nat.reduceMul, Nat.add_zero, Nat.mul_zero, Nat.zero_add, am_zb0, am_zb1, h2, rC hx hc, a1, w0, b1', c1', iw', aw]
    · rw [red]
      by_cases q3 : r3.1 = 0
      · have q2 : r2.1 = 0 := rS_1 (k := fun p => aN T n p 0 7) (by rw [← hr3]; exact q3)
        rw [if_pos q3, if_neg (by rw [← c2 q3]; have := b2 q2; rw [← (show v1 = tV T n (tE T n p) from this)]; exact q)]
        have : ((0 : Nat), r3.2) = r3 := Prod.ext q3.symm rfl
        show xR T n (0, r3.2) K9
        rw [this]; exact R9
      · rw [if_neg q3]
        exact R9
    · rw [red] at e ⊢
      by_cases q3 : r3.1 = 0
      · have q2 : r2.1 = 0 := rS_1 (k := fun p => aN T n p 0 7) (by rw [← hr3]; exact q3)
        have e1 : v1 = tV T n (tE T n p) := b2 q2
        have e2 : v2 = tV T n r2.2 := c2 q3
        rw [if_pos q3, if_neg (by rw [← e1, ← e2]; exact q), ← e1, ← e2]
        exact xCh_wolf hc hX (by rw [hK9, am_up_o (by omega), am_up_e]) (by rw [hK9, am_up_e]) k9
      · rw [if_neg q3] at e
        exact absurd e q3
end XRI
