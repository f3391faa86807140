/-! ===== ask ===== -/
theorem pQ_ok {T : Nat → Nat} {n f : Nat} (hf : 10 * n + 20 ≤ f) : (pQ T n f).1 < 9 ∧ ((pQ T n f).1 = 0 → ∃ (k : Nat) (bb : Bool), tW T n 0 = k ∧ 26 ≤ k ∧ k ≤ 31 ∧ (k ≤ 28 → bb = true) ∧ tokOK [] (pQ T n f).2.2 = some [bb] ∧ (∀ t ∈ (pQ T n f).2.2, tokW true false t) ∧ (pQ T n f).2.2.length ≤ n) := by
  have main : ∀ md, (md = 8 ∨ md = 3) → 0 ≤ tW T n 0 → (pB (pG T n 3 f md 0 (tE T n 0)) (pZ T n)).1 < 9 ∧ ((pB (pG T n 3 f md 0 (tE T n 0)) (pZ T n)).1 = 0 → tokOK [] (pB (pG T n 3 f md 0 (tE T n 0)) (pZ T n)).2.2 = some [mdT md] ∧ (∀ t ∈ (pB (pG T n 3 f md 0 (tE T n 0)) (pZ T n)).2.2, tokW true false t) ∧ (pB (pG T n 3 f md 0 (tE T n 0)) (pZ T n)).2.2.length ≤ n) := fun md hmd w0 => by
    have te := tE_s (T := T) (n := n) (p := 0) (by omega) (tW_0 w0)
    have nR : mdR md = false := by rcases hmd with rfl | rfl <;> rfl
    have ok := pG_ok (T := T) (n := n) (so := 3) f md 0 (tE T n 0) (by omega) (by omega) te.2 (by rw [nR]; show 10 * (n - tE T n 0) + md + 1 ≤ f; omega)
    unfold pOK at ok
    rw [nR] at ok
    obtain ⟨k1, k2, k3⟩ := ok
    by_cases q : (pG T n 3 f md 0 (tE T n 0)).1 = 0
    · have eb : pB (pG T n 3 f md 0 (tE T n 0)) (pZ T n) = ((pZ T n (pG T n 3 f md 0 (tE T n 0)).2.1).1, (pZ T n (pG T n 3 f md 0 (tE T n 0)).2.1).2.1, (pG T n 3 f md 0 (tE T n 0)).2.2 ++ (pZ T n (pG T n 3 f md 0 (tE T n 0)).2.1).2.2) := pB_0 q
      obtain ⟨a1, a2, a3, a4, a5⟩ := k2 q
      rw [eb]
      unfold pZ
      by_cases q0 : tK T n (pG T n 3 f md 0 (tE T n 0)).2.1 = 0
      · rw [if_pos q0]
        show 0 < 9 ∧ (_ → tokOK [] ((pG T n 3 f md 0 (tE T n 0)).2.2 ++ []) = _ ∧ (∀ t ∈ ((pG T n 3 f md 0 (tE T n 0)).2.2 ++ []), _) ∧ ((pG T n 3 f md 0 (tE T n 0)).2.2 ++ []).length ≤ n)
        rw [List.append_nil]
        refine ⟨by omega, fun _ => ⟨?_, a4, by omega⟩⟩
        have := a5 [] (by rcases hmd with rfl | rfl <;> decide)
        exact this
      · rw [if_neg q0]
        exact ⟨by show (1 : Nat) < 9; decide, fun c => absurd c (by show ¬ ((1 : Nat) = 0); decide)⟩
    · rw [pB_n q]
      exact ⟨k1, fun c => absurd c q⟩
  unfold pQ
  by_cases q1 : 26 ≤ tW T n 0 ∧ tW T n 0 ≤ 28
  · rw [if_pos q1]
    obtain ⟨m1, m2⟩ := main 8 (Or.inl rfl) (by omega)
    refine ⟨m1, fun e => ?_⟩
    obtain ⟨b1, b2, b3⟩ := m2 e
    exact ⟨(tW T n 0).toNat, true, by omega, by omega, by omega, fun _ => rfl, b1, b2, b3⟩
  · rw [if_neg q1]
    by_cases q2 : 29 ≤ tW T n 0 ∧ tW T n 0 ≤ 31
    · rw [if_pos q2]
      obtain ⟨m1, m2⟩ := main 3 (Or.inr rfl) (by omega)
      refine ⟨m1, fun e => ?_⟩
      obtain ⟨b1, b2, b3⟩ := m2 e
      exact ⟨(tW T n 0).toNat, false, by omega, by omega, by omega, fun c => by omega, b1, b2, b3⟩
    · rw [if_neg q2]
      exact ⟨by show (1 : Nat) < 9; decide, fun c => absurd c (by show ¬ ((1 : Nat) = 0); decide)⟩
/-- what a text that is read may change besides -/
def qT (q k : Nat) : Prop := (q = 3 ∧ k = 1) ∨ (q = 64 ∧ (k = 1 ∨ k = 7 ∨ k = 8)) ∨ (q = 5 ∧ (k = 10 ∨ k = 11))
def rQ (R R' : tR) : Prop := (∀ q k, ¬ ((q = 35 ∨ q = 42) ∧ k = 1) → ¬ (q = 5 ∧ k = 1) → R' q k = R q k) ∧ (R' 35 1 = 10 ∨ R' 35 1 = 20) ∧ (R' 42 1 = 10 ∨ R' 42 1 = 20) ∧ (R' 5 1 = 4 ∨ R' 5 1 = 7)
theorem rQ_x {R R' : tR} (h : rQ R R') (hx : st_Rx R) : st_Rx R' := by
  have hq := h.1
  simp (disch := omega) only [st_Rx, hq, rX hx, and_self]
theorem rQ_m {R R' : tR} (h : rQ R R') (hm : st_Rm R) : st_Rm R' := by
  have hq := h.1
  simp (disch := omega) only [st_Rm, hq, rM hm, and_self]
theorem vV_q {L : Nat} {xs : Nat → Int32} {I I' : tI} {J J' : tJ} {R R' : tR} (hV : vV restW L xs I J R) (hI : ∀ q k, ¬ sC q k → ¬ qT q k → I' q k = I q k) (t1 : I' 3 1 = am_i 0) (t2 : I' 64 1 = am_i 0) (f1 : I' 5 10 = I' 64 7) (f2 : I' 5 11 = I' 64 8) (hJ : ∀ q k, q ≠ 136 → q ≠ 51 → ¬ (q = 64 ∧ k = 102) → J' q k = J q k) (hR : rQ R R') : vV restW L xs I' J' R' := by
  obtain ⟨⟨h1, h2, hx, hm, ha, hb, hc, hd, he⟩, ht, hr, hf, hp, hs, hsd, hw⟩ := hV
  have g := hR.1
  refine ⟨⟨?_, ?_, rQ_x hR hx, rQ_m hR hm, ?_, ?_, hR.2.1, hR.2.2.1, hR.2.2.2⟩, ⟨0, by omega, t1, t2, fun k hk => absurd hk (Nat.not_lt_zero _)⟩, vRefd_cg I I' (fun q k e => hI q k ?_ ?_) hr, ⟨f1, f2⟩, vPic_cg I I' (fun q k e => hI q k ?_ ?_) hp, vSeen_cg I I' (fun q k e => hI q k ?_ ?_) hs, ?_, restW_C I J R I' J' R' (fun q k e => hI q k (dW_n e) ?_) (fun q k e => hJ q k ?_ ?_ ?_) (fun q k e => g q k ?_ ?_) hw⟩
  · funext k
    rw [hI 1 k (by unfold sC; omega) (by unfold qT; omega), h1]
  · rw [g _ _ (by omega) (by omega)]; exact h2
  · rw [g _ _ (by omega) (by omega), g _ _ (by omega) (by omega)]; exact ha
  · rw [g _ _ (by omega) (by omega)]; exact hb
  · unfold dRefd at e; simp at e; unfold sC; omega
  · unfold dRefd at e; simp at e; unfold qT; omega
  · unfold dPic at e; simp at e; unfold sC; omega
  · unfold dPic at e; simp at e; unfold qT; omega
  · unfold dSeen at e; simp at e; unfold sC; omega
  · unfold dSeen at e; simp at e; unfold qT; omega
  · obtain ⟨s, s1, s2, s3⟩ := hsd
    exact ⟨s, s1, by rw [hI _ _ (by unfold sC; omega) (by unfold qT; omega)]; exact s2, by rw [hJ _ _ (by omega) (by omega) (by omega)]; exact s3⟩
  · unfold dW at e; simp at e; unfold qT; omega
  · unfold dWJ at e; simp at e; omega
  · unfold dWJ at e; simp at e; omega
  · unfold dWJ at e; simp at e; omega
  · unfold dWR at e; simp at e; omega
  · unfold dWR at e; simp at e; omega
section MASK
variable {d : Nat} {J : tJ} {R : tR} {T : Nat → Nat} {n f last wd nb h : Nat} {nt wf : Nat → Nat} {fm : Nat → List tok} {s : Nat → bt} {I : tI}
theorem m_ask1 (hm : st_Rm R) (hT : txM T n I) (h50 : I 64 50 = am_i 1) (h1 : I 64 1 = am_i n) (hX : cxM last wd nb nt wf fm I) (hRM : rwM nb nt last h s I) (hf : 10 * n + 20 ≤ f) : ∃ I' J', (((pQ T n f).1 = 0 → am_E (d + 11) 287 0 [(0, .ref 64)] [] (I, J, R, 138) = some (some (.long (am_l (anS (tW T n 0).toNat (vlQ wd h nt wf fm s (pQ T n f).2.2 nb) nb))), (I', J', R, 138)) ∧ I' 64 7 = am_i 0 ∧ I' 64 8 = am_i (-1)) ∧ ((pQ T n f).1 ≠ 0 → am_E (d + 11) 287 0 [(0, .ref 64)] [] (I, J, R, 138) = some (some (.long (am_l (-1000000000000000))), (I', J', R, 138)) ∧ I' 64 7 = am_i (pQ T n f).1 ∧ I' 64 8 = am_i (pQ T n f).2.1)) ∧ I' 64 1 = am_i 0 ∧ (∀ q k, ¬ sC q k → ¬ (q = 64 ∧ (k = 1 ∨ k = 7 ∨ k = 8)) → I' q k = I q k) ∧ ∀ q k, q ≠ 136 → ¬ (q = 64 ∧ k = 102) → J' q k = J q k := by
  obtain ⟨I1, a1, a2, a3, a4, a5, a6⟩ := m_quest (d := d) (J := J) (f := f) hm hT h50 h1 hX.2.2.1 hf
  obtain ⟨ok9, ok⟩ := pQ_ok (T := T) (n := n) (f := f) hf
  obtain ⟨I2, hI2⟩ : ∃ I2, I2 = am_up (am_up I1 64 7 (I1 64 5)) 64 8 (I1 64 6) := ⟨_, rfl⟩
  have o2 : ∀ q k, ¬ (q = 64 ∧ (k = 7 ∨ k = 8)) → I2 q k = I1 q k := fun q k e => by rw [hI2, am_up_o (by omega), am_up_o (by omega)]
  have u6 : am_up I1 64 7 (I1 64 5) 64 6 = I1 64 6 := am_up_o (by omega)
  by_cases q : (pQ T n f).1 = 0
  · obtain ⟨k, bb, e1, e2, e3, e4, e5, e6, e7⟩ := ok q
    obtain ⟨c5, c6, c95, cL⟩ := a2.1 q
    have n16 := hT.1
    have ek : kdQ T n 0 = k - 26 := by unfold kdQ; rw [e1, if_pos (by omega)]; omega
    have et : (tW T n 0).toNat = k - 26 + 26 := by omega
    have x5 : I2 64 5 = am_i 0 := by rw [o2 _ _ (by omega)]; exact c5
    rw [ek] at a1
    rw [et]
    have oc : ∀ q k, ¬ qC q k → I1 q k = I q k := a6
    obtain ⟨I3, hI3⟩ : ∃ I3, I3 = am_up I2 64 103 (am_i 1) := ⟨_, rfl⟩
    have o3 : ∀ q k, ¬ (q = 64 ∧ (k = 7 ∨ k = 8 ∨ k = 103)) → I3 q k = I1 q k := fun q k e => by rw [hI3, am_up_o (by omega), o2 _ _ (by omega)]
    have X3 : cxM last wd nb nt wf fm I3 := cxM_c (fun q j x y => by rw [o3 _ _ (by omega), oc _ _ (by unfold qC; omega)]) hX
    have e103 : I3 103 = I 103 := funext fun j => by rw [o3 _ _ (by omega), oc _ _ (by unfold qC; omega)]
    have RM3 : rwM nb nt last h s I3 := by unfold rwM at hRM ⊢; rw [e103]; exact hRM
    obtain ⟨J3, hJ3⟩ : ∃ J3, J3 = am_up J 64 102 (am_l (anS (k - 26 + 26) (vlQ wd h nt wf fm s (pQ T n f).2.2 nb) 0)) := ⟨_, rfl⟩
    obtain ⟨I4, J4, g1, g2, g3, g4, g5, g6⟩ := m_193 (d := d + 6) (k := k - 26) hm (by omega) X3 RM3 nb 0 I3 J3 (by omega) (fun _ _ _ => rfl) (frJ_r _) (by rw [o3 _ _ (by omega)]; exact a5) (fun j hj => absurd hj (by omega))
    have o4 : ∀ q k, ¬ qL q k → I4 q k = I3 q k := g2
    have X4 : cxM last wd nb nt wf fm I4 := cxM_c (fun q j x y => o4 _ _ (by unfold qL; omega)) X3
    have e103' : I4 103 = I3 103 := funext fun j => o4 _ _ (by unfold qL; omega)
    have RM4 : rwM nb nt last h s I4 := by unfold rwM at RM3 ⊢; rw [e103']; exact RM3
    obtain ⟨I5, J5, c1, c2, c3⟩ := m_251 (d := d + 6) (k := k - 26) (l := (pQ T n f).2.2) (bb := bb) hm (by omega) e5 e6 (fun x => e4 (by omega)) X4 RM4 g4 g5 g6 (by rw [o4 _ _ (by unfold qL; omega), o3 _ _ (by omega)]; exact c95) (by omega) (fun k t e => by rw [o4 _ _ (by unfold qL; omega), o3 _ _ (by omega)]; exact cL k t e) nb 0 I4 J4 (by omega) (fun _ _ _ => rfl) (fun _ _ _ _ => rfl) (by rw [o4 _ _ (by unfold qL; omega), hI3, am_up_e, if_pos rfl]) (by rw [g3 64 102 (by omega), hJ3, am_up_e])
    have fr : ∀ q k, ¬ (qL q k ∨ (q = 64 ∧ (k = 7 ∨ k = 8 ∨ k = 101 ∨ k = 103))) → I5 q k = I1 q k := fun q k e => by
      rw [c2 q k (by omega), o4 q k (fun x => e (Or.inl x)), o3 q k (by omega)]
    have v78 : ∀ k, (k = 7 ∨ k = 8) → I5 64 k = I2 64 k := fun k hk => by
      rw [c2 64 k (by omega), o4 64 k (by unfold qL; omega), hI3, am_up_o (by omega)]
    refine ⟨I5, J5, ⟨fun _ => ⟨?_, ?_, ?_⟩, fun c => absurd q c⟩, ?_, fun q k e1 e2 => ?_, fun q k e1 e2 => ?_⟩
    · rw [a1, sg_X12_ask_143]
      have c1' : am_E (d + 11) 287 251 [(0, .ref 64), (1, .int (am_i (k - 26 : Nat))), (2, .int (am_i 0))] [] (I4, J4, R, 138) = _ := c1
      have g1' : am_E (d + 11) 287 193 [(0, .ref 64), (1, .int (am_i (k - 26 : Nat))), (2, .int (am_i 0))] [] (I3, J3, R, 138) = _ := g1
      rw [← c1', ← g1', hI3, hJ3]
      by_cases k2 : 28 ≤ k
      · have ea : anS (k - 26 + 26) (vlQ wd h nt wf fm s (pQ T n f).2.2 nb) 0 = 0 := by unfold anS; rw [if_neg (by omega)]
        have kk : (2 : Int) ≤ ((k - 26 : Nat) : Int) := by omega
        rw [ea]
        simp (disch := first | assumption | omega) only [rM hm, ly_csm, ly_cam, ly_cf, ly_kd, ly_ln, ↓Bool.cond_decide, cond_true, cond_false, ↓bI_p, ↓bV_p, ↓bL_p, bIJ_s, bVJ_s, bLJ_s, ↓am_let_s, Nat.blt, Nat.ble, Bool.and_true, Bool.true_and, Bool.and_self, Int.cast_ofNat_Int, am_i_add, am_i_sub, am_i_mul, am_ok_i, am_i_cl, n_lt, n_le, n_eq, n_lt0, n_le0, n_0lt, n_0le, n_eq0, ne_eq, ↓reduceIte, not_true_eq_false, not_false_eq_true, and_true, true_and, and_false, false_and, eq_T, eq_F, lt_T, lt_F, le_T, le_F, qn_T, qn_F, and_F, b01_T, b01_F, e_isIn, Int32.toInt_toInt64, am_i_toInt, am_l_toInt, Int.toNat_natCast, Int.reduceToNat, Int.reduceAdd, Int.reduceSub, Int.reduceMul, Int.reduceNeg, Nat.reduceAdd, Nat.reduceMul, Nat.add_zero, Nat.mul_zero, Nat.zero_add, am_zb0, am_zb1, u6, ← hI2, x5]
      · have ea : anS (k - 26 + 26) (vlQ wd h nt wf fm s (pQ T n f).2.2 nb) 0 = -1 := by unfold anS; rw [if_pos (by omega)]
        have kk : ¬ (2 : Int) ≤ ((k - 26 : Nat) : Int) := by omega
        rw [ea]
        simp (disch := first | assumption | omega) only [rM hm, ly_csm, ly_cam, ly_cf, ly_kd, ly_ln, ↓Bool.cond_decide, cond_true, cond_false, ↓bI_p, ↓bV_p, ↓bL_p, bIJ_s, bVJ_s, bLJ_s, ↓am_let_s, Nat.blt, Nat.ble, Bool.and_true, Bool.true_and, Bool.and_self, Int.cast_ofNat_Int, am_i_add, am_i_sub, am_i_mul, am_ok_i, am_i_cl, n_lt, n_le, n_eq, n_lt0, n_le0, n_0lt, n_0le, n_eq0, ne_eq, ↓reduceIte, not_true_eq_false, not_false_eq_true, and_true, true_and, and_false, false_and, eq_T, eq_F, lt_T, lt_F, le_T, le_F, qn_T, qn_F, and_F, b01_T, b01_F, e_isIn, Int32.toInt_toInt64, am_i_toInt, am_l_toInt, Int.toNat_natCast, Int.reduceToNat, Int.reduceAdd, Int.reduceSub, Int.reduceMul, Int.reduceNeg, Nat.reduceAdd, Nat.reduceMul, Nat.add_zero, Nat.mul_zero, Nat.zero_add, am_zb0, am_zb1, u6, ← hI2, x5]
    · rw [v78 7 (by omega), hI2, am_up_o (by omega), am_up_e]; exact c5
    · rw [v78 8 (by omega), hI2, am_up_e]; exact c6
    · rw [fr _ _ (by unfold qL; omega)]; exact a3
    · rw [fr q k (by unfold qL; unfold sC at e1; omega), oc q k (by unfold qC; unfold sC at e1; omega)]
    · rw [c3 q k e1 e2, g3 q k e1, hJ3, am_up_o e2]
  · obtain ⟨c5, c6⟩ := a2.2 q
    have x5 : (I2 64 5 = 0) = False := eq_false (by rw [o2 _ _ (by omega), c5]; exact i5_n q ok9)
    refine ⟨I2, J, ⟨fun c => absurd c q, fun _ => ⟨?_, ?_, ?_⟩⟩, ?_, fun q k e1 e2 => ?_, fun _ _ _ _ => rfl⟩
    · rw [a1, sg_X12_ask_143]
      simp (disch := first | assumption | omega) only [rM hm, ly_csm, ly_cam, ly_cf, ly_kd, ly_ln, ↓Bool.cond_decide, cond_true, cond_false, ↓bI_p, ↓bV_p, ↓bL_p, bIJ_s, bVJ_s, bLJ_s, ↓am_let_s, Nat.blt, Nat.ble, Bool.and_true, Bool.true_and, Bool.and_self, Int.cast_ofNat_Int, am_i_add, am_i_sub, am_i_mul, am_ok_i, am_i_cl, n_lt, n_le, n_eq, n_lt0, n_le0, n_0lt, n_0le, n_eq0, ne_eq, ↓reduceIte, not_true_eq_false, not_false_eq_true, and_true, true_and, and_false, false_and, eq_T, eq_F, lt_T, lt_F, le_T, le_F, qn_T, qn_F, and_F, b01_T, b01_F, e_isIn, Int32.toInt_toInt64, am_i_toInt, am_l_toInt, Int.toNat_natCast, Int.reduceToNat, Int.reduceAdd, Int.reduceSub, Int.reduceMul, Int.reduceNeg, Nat.reduceAdd, Nat.reduceMul, Nat.add_zero, Nat.mul_zero, Nat.zero_add, am_zb0, am_zb1, u6, ← hI2, x5]
    · rw [hI2, am_up_o (by omega), am_up_e]; exact c5
    · rw [hI2, am_up_e]; exact c6
    · rw [o2 _ _ (by omega)]; exact a3
    · rw [o2 q k (by omega), a6 q k (by unfold qC; unfold sC at e1; omega)]
end MASK
section PASK
variable {L : Nat} {xs : Nat → Int32}
theorem p_ask (d : Nat) : pr_L (vV restW L xs) (d + 81) 131 287 [] := by
  refine pW_L ?_
  intro I J R hV
  have hV0 := hV
  obtain ⟨⟨h1, h2, hx, hm, hmu⟩, ht, hr, hf, hp, hs, hd, hw⟩ := hV
  obtain ⟨c, last, nb, nr, nw, wd, sq, K, nt, wf, fm, h4, hc, hB, hN, hF, ⟨h, s, ⟨hh, e66, g0, hbt⟩, ⟨ek, gk, hkp⟩, hKh⟩, hA, hX⟩ := hw
  obtain ⟨b1, b2, b3, b4, b5, b6, b7, b8, i0, m0, i1, m1, i2, m2, i3, m3, i4, m4, i5, m5, mS, mT, hnt, hky, hwf⟩ := hB
  have hsd := fun d => e_hasSound (d := d) (I := I) (J := J) hx h4 hc b2 i0
  by_cases hl0 : last = 0
  · refine ⟨am_l (-1000000000000000), ?_⟩
    rw [if_pos hl0] at hsd mS
    have cl : am_E (d + 81) 131 0 [(0, .ref 3)] [] (I, J, R, 138) = some (some (.long (am_l (-1000000000000000))), (am_up I 3 1 (am_i 0), J, R, 138)) := by
      rw [sg_X11_ask_0]
      simp (disch := first | assumption | omega) only [rX hx, ly_csx, ly_cax, ly_cf, ly_kd, ly_ln, ↓Bool.cond_decide, cond_true, cond_false, ↓bI_p, ↓bV_p, ↓bL_p, bIJ_s, bVJ_s, bLJ_s, ↓am_let_s, Nat.blt, Nat.ble, Bool.and_true, Bool.true_and, Bool.and_self, Int.cast_ofNat_Int, am_i_add, am_i_sub, am_i_mul, am_ok_i, am_i_cl, n_lt, n_le, n_eq, n_lt0, n_le0, n_0lt, n_0le, n_eq0, ne_eq, ↓reduceIte, not_true_eq_false, not_false_eq_true, and_true, true_and, and_false, false_and, eq_T, eq_F, lt_T, lt_F, le_T, le_F, qn_T, qn_F, and_F, b01_T, b01_F, e_isIn, Int32.toInt_toInt64, am_i_toInt, am_l_toInt, Int.toNat_natCast, Int.reduceToNat, Int.reduceAdd, Int.reduceSub, Int.reduceMul, Int.reduceNeg, Nat.reduceAdd, Nat.reduceMul, Nat.add_zero, Nat.mul_zero, Nat.zero_add, am_zb0, am_zb1, hsd]
    refine Wp_e cl (Wp_r ⟨_, J, R, rfl, rfl, rfl, rfl, ?_⟩)
    have z50 : am_up I 3 1 (am_i 0) 64 50 = am_i 0 := by rw [am_up_o (by omega)]; exact mS
    have cm : am_E (d + 81) 287 0 [(0, .ref 64)] [] (am_up I 3 1 (am_i 0), J, R, 138) = some (some (.long (am_l (-1000000000000000))), (am_up (am_up I 3 1 (am_i 0)) 64 1 (am_i 0), J, R, 138)) := by
      rw [sg_X12_ask_0]
      simp (disch := first | assumption | omega) only [rM hm, ly_csm, ly_cam, ly_cf, ly_kd, ly_ln, ↓Bool.cond_decide, cond_true, cond_false, ↓bI_p, ↓bV_p, ↓bL_p, bIJ_s, bVJ_s, bLJ_s, ↓am_let_s, Nat.blt, Nat.ble, Bool.and_true, Bool.true_and, Bool.and_self, Int.cast_ofNat_Int, am_i_add, am_i_sub, am_i_mul, am_ok_i, am_i_cl, n_lt, n_le, n_eq, n_lt0, n_le0, n_0lt, n_0le, n_eq0, ne_eq, ↓reduceIte, not_true_eq_false, not_false_eq_true, and_true, true_and, and_false, false_and, eq_T, eq_F, lt_T, lt_F, le_T, le_F, qn_T, qn_F, and_F, b01_T, b01_F, e_isIn, Int32.toInt_toInt64, am_i_toInt, am_l_toInt, Int.toNat_natCast, Int.reduceToNat, Int.reduceAdd, Int.reduceSub, Int.reduceMul, Int.reduceNeg, Nat.reduceAdd, Nat.reduceMul, Nat.add_zero, Nat.mul_zero, Nat.zero_add, am_zb0, am_zb1, z50]
    refine Wp_e cm (Wp_r ⟨_, J, R, rfl, rfl, vV_q hV0 (fun q k e1 e2 => ?_) ?_ am_up_e ?_ ?_ (fun _ _ _ _ _ => rfl) ⟨fun _ _ _ _ => rfl, hmu.2.2⟩⟩)
    · unfold qT at e2
      rw [am_up_o (by omega), am_up_o (by omega)]
    · rw [am_up_o (by omega), am_up_e]
    · rw [am_up_o (by omega), am_up_o (by omega), am_up_o (by omega), am_up_o (by omega)]; exact hf.1
    · rw [am_up_o (by omega), am_up_o (by omega), am_up_o (by omega), am_up_o (by omega)]; exact hf.2
  · rw [if_neg hl0] at hsd mS
    obtain ⟨n, n16, tx, tm, tt⟩ := ht
    obtain ⟨T, hT⟩ : ∃ T : Nat → Nat, ∀ k, k < n → T k < 256 ∧ I 4 k = am_i (T k) ∧ I 65 k = am_i (T k) := ⟨fun k => (I 4 k).toInt.toNat, fun k hk => by
      obtain ⟨v, v1, v2, v3⟩ := tt k hk
      have : (I 4 k).toInt.toNat = v := by rw [v2, am_i_toInt (by omega) (by omega)]; omega
      show (I 4 k).toInt.toNat < 256 ∧ I 4 k = am_i ((I 4 k).toInt.toNat : Nat) ∧ I 65 k = am_i ((I 4 k).toInt.toNat : Nat)
      rw [this]
      exact ⟨v1, v2, v3⟩⟩
    have hXx : cxX c last wd wf fm I := ⟨i0, b2, i4, b6, fun m hm => ⟨(hwf m hm).1, (hwf m hm).2.1⟩, fun f hf => ⟨(hF hl0 f hf).1, (hF hl0 f hf).2.2⟩⟩
    have hXm : cxM last wd nb nt wf fm I := ⟨m0, b2, m4, b6, m1, b3, fun b hb => ⟨(hnt b hb).1, (hnt b hb).2.2⟩, fun m hm => (hwf m hm).2.2, fun f hf => ⟨(hF hl0 f hf).2.1, (hF hl0 f hf).2.2⟩⟩
    have hRM : rwM nb nt last h s I := ⟨hh, g0, fun b hb => ⟨(hbt b hb).1, (hbt b hb).2.2⟩⟩
    have hnt6 : ∀ b, b < nb → nt b ≤ 6 := fun b hb => (hnt b hb).1
    have hR1 : rR R (am_up R 35 1 c) := rR_u (rR_r hmu) hc (Or.inl rfl)
    have hx1 := rR_x hR1 hx
    have hm1 := rR_m hR1 hm
    have h41 : am_up R 35 1 c 3 4 = c := h4
    obtain ⟨ok9, ok⟩ := pQ_ok (T := T) (n := n) (f := 10 * n + 20) (Nat.le_refl _)
    obtain ⟨I1, a1, a2, a3, a4⟩ := x_start (d := d + 75) (J := J) (T := T) hx n16 (fun k hk => ⟨(hT k hk).1, (hT k hk).2.1⟩) (hX 6 rfl)
    have cb : c ≠ 5 ∧ c ≠ 8 ∧ c ≠ 9 ∧ c ≠ 3 ∧ c + 4 ≠ 5 ∧ c + 4 ≠ 8 ∧ c + 4 ≠ 9 ∧ c + 4 ≠ 3 := by rcases hc with rfl | rfl <;> decide
    have hxq := rx_51 hx
    have hmq := rm_51 hm
    have T1 : txX T n I1 (am_up R 5 1 4) := ⟨n16, am_up_e, fun k hk => ⟨(hT k hk).1, by rw [a4 _ _ (by omega)]; exact (hT k hk).2.1⟩, by rw [← hX 6 rfl]; exact funext fun k => a4 6 k (by omega)⟩
    obtain ⟨I2, c1, c2, c3, c4⟩ := x_quest (d := d) (J := J) (f := 10 * n + 20) hxq T1 a2 (Nat.le_refl _)
    have a1' : am_E (d + 80) 70 0 [(0, .ref 5), (1, .ref 4), (2, .int (am_i n))] [] (I, J, R, 138) = _ := a1
    have h4q : am_up R 5 1 4 3 4 = c := h4
    obtain ⟨I3, hI3⟩ : ∃ I3, I3 = am_up I2 3 1 (am_i 0) := ⟨_, rfl⟩
    have o3 : ∀ q k, q ≠ 5 → q ≠ 8 → q ≠ 9 → ¬ (q = 3 ∧ k = 1) → I3 q k = I q k := fun q k x y z w => by rw [hI3, am_up_o w, c4 q k x y z, a4 q k x]
    -- the reference's call, behind the class's
    have ref : ∀ (I4 : tI) (R4 : tR) (res : Int), (∀ q k, ¬ (35 ≤ q ∧ q ≤ 41) → I4 q k = I3 q k) → rQ R R4 → (((pQ T n (10 * n + 20)).1 = 0 → res = anS (tW T n 0).toNat (vlQ wd h nt wf fm s (pQ T n (10 * n + 20)).2.2 nb) nb ∧ I3 5 10 = am_i 0 ∧ I3 5 11 = am_i (-1)) ∧ ((pQ T n (10 * n + 20)).1 ≠ 0 → res = -1000000000000000 ∧ I3 5 10 = am_i (pQ T n (10 * n + 20)).1 ∧ I3 5 11 = am_i (pQ T n (10 * n + 20)).2.1)) → Wp (fun q' M' => ∃ I2 J2 R2, q' = some (.long (am_l res)) ∧ M' = (I2, J2, R2, 138) ∧ vV restW L xs I2 J2 R2) (am_E (d + 81) 287 0 [(0, .ref 64)] [] (I4, J, R4, 138)) := fun I4 R4 res f4 r4 hres => by
      have hm4 := rQ_m r4 hm
      have o4 : ∀ q k, q ≠ 5 → q ≠ 8 → q ≠ 9 → ¬ (q = 3 ∧ k = 1) → ¬ (35 ≤ q ∧ q ≤ 41) → I4 q k = I q k := fun q k x y z w v => by rw [f4 q k v, o3 q k x y z w]
      have T4 : txM T n I4 := ⟨n16, fun k hk => ⟨(hT k hk).1, by rw [o4 _ _ (by omega) (by omega) (by omega) (by omega) (by omega)]; exact (hT k hk).2.2⟩, fun q hq => by
        rw [← hX q hq]
        have : q ≠ 5 ∧ q ≠ 8 ∧ q ≠ 9 ∧ q ≠ 3 ∧ ¬ (35 ≤ q ∧ q ≤ 41) := by unfold fixd at hq; simp at hq; omega
        exact funext fun k => o4 q k this.1 this.2.1 this.2.2.1 (by omega) this.2.2.2.2⟩
      have X4 : cxM last wd nb nt wf fm I4 := cxM_c (fun q k x y => o4 q k (by omega) (by omega) (by omega) (by omega) (by omega)) hXm
      have e103 : I4 103 = I 103 := funext fun j => o4 103 j (by omega) (by omega) (by omega) (by omega) (by omega)
      have RM4 : rwM nb nt last h s I4 := by unfold rwM at hRM ⊢; rw [e103]; exact hRM
      obtain ⟨I5, J5, ⟨g0, g1⟩, g2, g3, g5⟩ := m_ask1 (d := d + 70) (J := J) (f := 10 * n + 20) hm4 T4 (by rw [o4 _ _ (by omega) (by omega) (by omega) (by omega) (by omega)]; exact mS) (by rw [o4 _ _ (by omega) (by omega) (by omega) (by omega) (by omega)]; exact tm) X4 RM4 (Nat.le_refl _)
      have fin : I5 5 10 = I5 64 7 → I5 5 11 = I5 64 8 → vV restW L xs I5 J5 R4 := fun y1 y2 => vV_q hV0 (fun q k e1 e2 => by
          unfold qT at e2
          have e1' := e1
          unfold sC at e1'
          rw [g3 q k e1 (by omega), o4 q k (by omega) (by omega) (by omega) (by omega) (by omega)]) (by rw [g3 _ _ (by unfold sC; omega) (by omega), f4 _ _ (by omega), hI3, am_up_e]) g2 y1 y2 (fun q k e1 e2 e3 => g5 q k e1 e3) r4
      have k10 : I5 5 10 = I3 5 10 := by rw [g3 _ _ (by unfold sC; omega) (by omega), f4 _ _ (by omega)]
      have k11 : I5 5 11 = I3 5 11 := by rw [g3 _ _ (by unfold sC; omega) (by omega), f4 _ _ (by omega)]
      by_cases q : (pQ T n (10 * n + 20)).1 = 0
      · obtain ⟨r1, r2, r3⟩ := hres.1 q
        obtain ⟨w1, w2, w3⟩ := g0 q
        rw [r1]
        exact Wp_e w1 (Wp_r ⟨I5, J5, R4, rfl, rfl, fin (by rw [k10, r2, w2]) (by rw [k11, r3, w3])⟩)
      · obtain ⟨r1, r2, r3⟩ := hres.2 q
        obtain ⟨w1, w2, w3⟩ := g1 q
        rw [r1]
        exact Wp_e w1 (Wp_r ⟨I5, J5, R4, rfl, rfl, fin (by rw [k10, r2, w2]) (by rw [k11, r3, w3])⟩)
    have rq1 : rQ R (am_up R 5 1 4) := ⟨fun q k _ e => am_up_o e, hmu.2.2.1, hmu.2.2.2.1, Or.inl am_up_e⟩
    by_cases q : (pQ T n (10 * n + 20)).1 = 0
    · obtain ⟨k, bb, e1, e2, e3, e4, e5, e6, e7⟩ := ok q
      obtain ⟨y1, y2, y3⟩ := c2 q
      have et : (tW T n 0).toNat = k := by omega
      refine ⟨am_l (anS k (vlQ wd h nt wf fm s (pQ T n (10 * n + 20)).2.2 nb) nb), ?_⟩
      have e31 : I3 31 = I 31 := funext fun j => o3 31 j (by omega) (by omega) (by omega) (by omega)
      have A3 : axX c last wd nb h nt wf fm s (pQ T n (10 * n + 20)).2.2 I3 := ⟨cxX_c hc (fun q j x y => o3 q j (by omega) (by omega) (by omega) (by omega)) hXx, by rw [o3 c 1 cb.1 cb.2.1 cb.2.2.1 (fun e => cb.2.2.2.1 e.1)]; exact i1, b3, fun b hb => ⟨(hnt b hb).1, by rw [o3 (c + 4) b cb.2.2.2.2.1 cb.2.2.2.2.2.1 cb.2.2.2.2.2.2.1 (fun e => cb.2.2.2.2.2.2.2 e.1)]; exact (hnt b hb).2.1⟩, hh, by rw [e31]; exact e66, fun b hb => by rw [e31]; exact ⟨(hbt b hb).1, (hbt b hb).2.1⟩, qfX_c y3 (fun q k x => by rw [hI3, am_up_o (by omega)])⟩
      have rrq : rR (am_up R 5 1 4) (am_up R 5 1 4) := ⟨fun _ _ _ => rfl, hmu.2.2.1, hmu.2.2.2.1⟩
      obtain ⟨I4, R4, w1, w2, w3⟩ := x_answer (d := d + 73) (J := J) (bb := bb) (k := k) hc e5 e6 e2 e3 e4 h4q hxq rrq A3
      have w1' : am_E (d + 80) 160 0 [(0, .ref 3), (1, .int (am_i k))] [] (I3, J, am_up R 5 1 4, 138) = _ := w1
      rw [e1] at c1
      have z10 : I3 5 10 = am_i 0 := by rw [hI3, am_up_o (by omega)]; exact y1
      have cl : am_E (d + 81) 131 0 [(0, .ref 3)] [] (I, J, R, 138) = some (some (.long (am_l (anS k (vlQ wd h nt wf fm s (pQ T n (10 * n + 20)).2.2 nb) nb))), (I4, J, R4, 138)) := by
        rw [sg_X11_ask_0]
        simp (disch := first | assumption | omega) only [rX hx, ly_csx, ly_cax, ly_cf, ly_kd, ly_ln, ↓Bool.cond_decide, cond_true, cond_false, ↓bI_p, ↓bV_p, ↓bL_p, bIJ_s, bVJ_s, bLJ_s, ↓am_let_s, Nat.blt, Nat.ble, Bool.and_true, Bool.true_and, Bool.and_self, Int.cast_ofNat_Int, am_i_add, am_i_sub, am_i_mul, am_ok_i, am_i_cl, n_lt, n_le, n_eq, n_lt0, n_le0, n_0lt, n_0le, n_eq0, ne_eq, ↓reduceIte, not_true_eq_false, not_false_eq_true, and_true, true_and, and_false, false_and, eq_T, eq_F, lt_T, lt_F, le_T, le_F, qn_T, qn_F, and_F, b01_T, b01_F, e_isIn, Int32.toInt_toInt64, am_i_toInt, am_l_toInt, Int.toNat_natCast, Int.reduceToNat, Int.reduceAdd, Int.reduceSub, Int.reduceMul, Int.reduceNeg, Nat.reduceAdd, Nat.reduceMul, Nat.add_zero, Nat.mul_zero, Nat.zero_add, am_zb0, am_zb1, hsd, tx, a1']
        simp (disch := first | assumption | omega) only [am_i_add, am_i_sub, am_i_mul, am_ok_i, am_i_cl, n_lt, n_le, n_eq, n_lt0, n_le0, n_0lt, n_0le, n_eq0, ne_eq, ↓reduceIte, not_true_eq_false, not_false_eq_true, and_true, true_and, and_false, false_and, eq_T, eq_F, lt_T, lt_F, le_T, le_F, qn_T, qn_F, and_F, b01_T, b01_F, e_isIn, Int32.toInt_toInt64, am_i_toInt, am_l_toInt, Int.toNat_natCast, Int.reduceToNat, Int.reduceAdd, Int.reduceSub, Int.reduceMul, Int.reduceNeg, Nat.reduceAdd, Nat.reduceMul, Nat.add_zero, Nat.mul_zero, Nat.zero_add, am_zb0, am_zb1, ly_cf, ↓Bool.cond_decide, cond_true, cond_false, ↓bI_p, ↓bV_p, ↓bL_p, bIJ_s, bVJ_s, bLJ_s, ↓am_let_s, rX hxq, c1, ← hI3, z10, w1']
      refine Wp_e cl (Wp_r ⟨I4, J, R4, rfl, rfl, ?_, ?_, ?_⟩)
      · funext j
        rw [w2 1 j (by omega), o3 1 j (by omega) (by omega) (by omega) (by omega)]
      · rw [w3.1 _ _ (by omega)]; rfl
      · exact ref I4 R4 _ w2 ⟨fun q k e1 e2 => by rw [w3.1 q k e1, am_up_o e2], w3.2.1, w3.2.2, Or.inl (by rw [w3.1 _ _ (by omega), am_up_e])⟩ ⟨fun _ => ⟨by rw [et], z10, by rw [hI3, am_up_o (by omega), y2]; exact a3⟩, fun c => absurd q c⟩
    · obtain ⟨y1, y2, y3⟩ := c3 q
      refine ⟨am_l (-1000000000000000), ?_⟩
      have z10 : I3 5 10 = am_i (pQ T n (10 * n + 20)).1 := by rw [hI3, am_up_o (by omega)]; exact y2
      have z10' : (I3 5 10 = 0) = False := eq_false (by rw [z10]; exact i5_n q ok9)
      have cl : am_E (d + 81) 131 0 [(0, .ref 3)] [] (I, J, R, 138) = some (some (.long (am_l (-1000000000000000))), (I3, J, am_up R 5 1 4, 138)) := by
        rw [sg_X11_ask_0]
        simp (disch := first | assumption | omega) only [rX hx, ly_csx, ly_cax, ly_cf, ly_kd, ly_ln, ↓Bool.cond_decide, cond_true, cond_false, ↓bI_p, ↓bV_p, ↓bL_p, bIJ_s, bVJ_s, bLJ_s, ↓am_let_s, Nat.blt, Nat.ble, Bool.and_true, Bool.true_and, Bool.and_self, Int.cast_ofNat_Int, am_i_add, am_i_sub, am_i_mul, am_ok_i, am_i_cl, n_lt, n_le, n_eq, n_lt0, n_le0, n_0lt, n_0le, n_eq0, ne_eq, ↓reduceIte, not_true_eq_false, not_false_eq_true, and_true, true_and, and_false, false_and, eq_T, eq_F, lt_T, lt_F, le_T, le_F, qn_T, qn_F, and_F, b01_T, b01_F, e_isIn, Int32.toInt_toInt64, am_i_toInt, am_l_toInt, Int.toNat_natCast, Int.reduceToNat, Int.reduceAdd, Int.reduceSub, Int.reduceMul, Int.reduceNeg, Nat.reduceAdd, Nat.reduceMul, Nat.add_zero, Nat.mul_zero, Nat.zero_add, am_zb0, am_zb1, hsd, tx, a1']
        simp (disch := first | assumption | omega) only [am_i_add, am_i_sub, am_i_mul, am_ok_i, am_i_cl, n_lt, n_le, n_eq, n_lt0, n_le0, n_0lt, n_0le, n_eq0, ne_eq, ↓reduceIte, not_true_eq_false, not_false_eq_true, and_true, true_and, and_false, false_and, eq_T, eq_F, lt_T, lt_F, le_T, le_F, qn_T, qn_F, and_F, b01_T, b01_F, e_isIn, Int32.toInt_toInt64, am_i_toInt, am_l_toInt, Int.toNat_natCast, Int.reduceToNat, Int.reduceAdd, Int.reduceSub, Int.reduceMul, Int.reduceNeg, Nat.reduceAdd, Nat.reduceMul, Nat.add_zero, Nat.mul_zero, Nat.zero_add, am_zb0, am_zb1, ly_cf, ↓Bool.cond_decide, cond_true, cond_false, ↓bI_p, ↓bV_p, ↓bL_p, bIJ_s, bVJ_s, bLJ_s, ↓am_let_s, rX hxq, c1, ← hI3, z10']
      refine Wp_e cl (Wp_r ⟨I3, J, am_up R 5 1 4, rfl, rfl, ?_, rfl, ?_⟩)
      · funext j
        rw [o3 1 j (by omega) (by omega) (by omega) (by omega)]
      · exact ref I3 (am_up R 5 1 4) _ (fun _ _ _ => rfl) rq1 ⟨fun c => absurd c q, fun _ => ⟨rfl, z10, by rw [hI3, am_up_o (by omega)]; exact y3⟩⟩
end PASK
