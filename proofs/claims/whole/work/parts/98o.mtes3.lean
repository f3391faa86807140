/-! ===== the test of the reference is the grammar's ===== -/
section MT3
variable {d D : Nat} {J : tJ} {R : tR} {T : Nat → Nat} {n so p o f : Nat} {W : List Nat} {C : List Int} {I I' I'' : tI}
theorem t_5 (hm : st_Rm R) (h5 : tP5 T n so (d + 9) J R f) (h8 : tP8 T n so (d + 9) J R f) : tP5 T n so (d + 9) J R (f + 1) := by
  intro o p W C I hf h hW
  have hp := h.2.2.2.1
  have o6 := yS_o6 h
  rw [pG, if_neg (by decide), if_neg (by decide), if_neg (by decide), if_neg (by decide), if_neg (by decide), if_pos rfl]
  by_cases w22 : tW T n p = (22 : Nat)
  · rw [if_pos (show tW T n p = 22 from w22)]
    have tb := tE_wd w22 hp
    obtain ⟨I1, a1, a2, a3⟩ := t_not (d := d) (J := J) hm h w22
    by_cases q : 6 ≤ o
    · rw [if_pos q]
      obtain ⟨b1, b2⟩ := a2 q
      exact ⟨fun c => absurd c (by show ¬ ((4 : Nat) = 0); decide), fun _ => ⟨I1, b1, b2, a3⟩⟩
    · rw [if_neg q]
      obtain ⟨b1, b2⟩ := a1 (by omega)
      rw [b1]
      refine tG_n a3 (tG_b (h5 (o + 1) (tE T n p) (12 :: W) C I1 (by omega) b2 (fun w hw => by have : 12 = w := Option.some.inj hw; omega)) (fun q1 I2 hq => ?_))
      refine ⟨fun _ => ⟨I2, rfl, ?_, yN_r⟩, fun c => absurd rfl c⟩
      unfold tq5 at hq ⊢
      have e : dnB (12 :: W) (C ++ List.map encM (pG T n so f 5 (o + 1) (tE T n p)).2.2) (o + 1) = dnB W (C ++ (List.map encM (pG T n so f 5 (o + 1) (tE T n p)).2.2 ++ [12])) o := by
        rw [← List.append_assoc]
        exact if_pos rfl
      rw [e] at hq
      exact hq
  · rw [if_neg (show ¬ tW T n p = 22 from w22)]
    by_cases s91 : tSg T n p = (91 : Nat)
    · rw [if_pos (show tSg T n p = 91 from s91)]
      have tb := tE_sg s91 hp
      obtain ⟨I1, a1, a2, a3⟩ := t_open (d := d) (J := J) hm h s91
      by_cases q : 6 ≤ o
      · rw [if_pos q]
        obtain ⟨b1, b2⟩ := a2 q
        exact ⟨fun c => absurd c (by show ¬ ((4 : Nat) = 0); decide), fun _ => ⟨I1, b1, b2, a3⟩⟩
      · rw [if_neg q]
        obtain ⟨b1, b2⟩ := a1 (by omega)
        rw [b1]
        refine tG_n a3 (tG_b (h8 (o + 1) (tE T n p) (25 :: W) C I1 (by omega) b2 (fun w hw => by have : 25 = w := Option.some.inj hw; omega)) (fun q1 I2 hq => ?_))
        obtain ⟨ops, C', c1, c2, c3, c4, c5⟩ := hq
        unfold pA aS
        by_cases g : tSg T n (pG T n so f 8 (o + 1) (tE T n p)).2.1 = (93 : Nat)
        · rw [if_pos g]
          obtain ⟨I3, e1, e2, e3⟩ := e_tCl (J := J) hm c3 c1 g
          refine ⟨fun _ => ⟨I3, ?_, ?_, e3⟩, fun c => absurd rfl c⟩
          · have := e1 (d + 5)
            unfold tA2
            rw [show d + 9 = d + 5 + 4 from rfl, this]
          · unfold tq5
            rw [c2] at e2
            show yS T n so 0 0 (tE T n (pG T n so f 8 (o + 1) (tE T n p)).2.1) (dnB W (C ++ (List.map encM (pG T n so f 8 (o + 1) (tE T n p)).2.2 ++ [])) o).2.2 (dnB W (C ++ (List.map encM (pG T n so f 8 (o + 1) (tE T n p)).2.2 ++ [])) o).1 (dnB W (C ++ (List.map encM (pG T n so f 8 (o + 1) (tE T n p)).2.2 ++ [])) o).2.1 I3
            rw [List.append_nil]
            exact e2
        · rw [if_neg g]
          obtain ⟨I3, e1, e2, e3⟩ := e_tBad (J := J) hm c3 c4 c5 g (List.mem_append.mpr (Or.inr List.mem_cons_self))
          refine ⟨fun c => absurd c (by show ¬ ((1 : Nat) = 0); decide), fun _ => ⟨I3, ?_, e2, e3⟩⟩
          exact t_off (D := d + 9) hm e2 (e1 (d + 5))
    · rw [if_neg (show ¬ tSg T n p = 91 from s91)]
      exact t_fact hm h hW (by omega) s91 w22
theorem t_6 (h0 : tP5 T n so (d + 9) J R f) (h2 : tP7 T n so (d + 9) J R f) : tP6 T n so (d + 9) J R (f + 1) := by
  intro o p W C I hf h hW
  have e : pG T n so (f + 1) 6 o p = pB (pG T n so f 5 o p) (fun p1 => pG T n so f 7 o p1) := by
    rw [pG, if_neg (by decide), if_neg (by decide), if_neg (by decide), if_neg (by decide), if_neg (by decide), if_neg (by decide), if_pos rfl]
  rw [e]
  have ge := pG_e (T := T) (so := so) (f := f) (md := 5) (o := o) (p := p) (by omega) (yS_o6 h) h.2.2.2.1 (by show 10 * (n - p) + 5 + 1 ≤ f; omega)
  refine tG_b (h0 o p W C I (by omega) h (fun w hw => by have := hW w hw; omega)) (fun q I1 hq => ?_)
  obtain ⟨g1, g2, g3⟩ := ge.2 q
  have g1' : p + 1 ≤ (pG T n so f 5 o p).2.1 := g1
  unfold tq5 at hq
  rw [dnB_i (fun w hw => (hW w hw).2.2)] at hq
  have := h2 o _ [] W _ I1 (by omega) hq (fun w hw => absurd hw List.not_mem_nil) hW
  refine tG_q this (fun _ I2 hq2 => ?_)
  obtain ⟨ops, C', a1, a2, a3⟩ := hq2
  exact ⟨ops, C', a1, by rw [a2]; show (C ++ _) ++ [] ++ _ = _; rw [List.append_nil, List.append_assoc], a3⟩
theorem t_8 (h0 : tP6 T n so (d + 9) J R f) (h2 : tP9 T n so (d + 9) J R f) : tP8 T n so (d + 9) J R (f + 1) := by
  intro o p W C I hf h hW
  have e : pG T n so (f + 1) 8 o p = pB (pG T n so f 6 o p) (fun p1 => pG T n so f 9 o p1) := by
    rw [pG, if_neg (by decide), if_neg (by decide), if_neg (by decide), if_neg (by decide), if_neg (by decide), if_neg (by decide), if_neg (by decide), if_neg (by decide), if_pos rfl]
  rw [e]
  have ge := pG_e (T := T) (so := so) (f := f) (md := 6) (o := o) (p := p) (by omega) (yS_o6 h) h.2.2.2.1 (by show 10 * (n - p) + 6 + 1 ≤ f; omega)
  refine tG_b (h0 o p W C I (by omega) h (fun w hw => by have := hW w hw; omega)) (fun q I1 hq => ?_)
  obtain ⟨g1, g2, g3⟩ := ge.2 q
  have g1' : p + 1 ≤ (pG T n so f 6 o p).2.1 := g1
  obtain ⟨ops, C', a1, a2, a3, a4⟩ := hq
  have := h2 o _ ops W C' I1 (by omega) a3 (fun w hw => by have := a1 w hw; omega) hW a4
  refine tG_q this (fun _ I2 hq2 => ?_)
  obtain ⟨ops', C'', c1, c2, c3⟩ := hq2
  exact ⟨ops', C'', c1, by rw [c2, a2, List.append_assoc], c3⟩
theorem t_7 (hm : st_Rm R) (h0 : tP5 T n so (d + 9) J R f) (h2 : tP7 T n so (d + 9) J R f) : tP7 T n so (d + 9) J R (f + 1) := by
  intro o p ops W C I hf h ho hW
  have hp := h.2.2.2.1
  rw [pG, if_neg (by decide), if_neg (by decide), if_neg (by decide), if_neg (by decide), if_neg (by decide), if_neg (by decide), if_neg (by decide), if_pos rfl]
  by_cases g : tW T n p = (21 : Nat)
  · rw [if_pos (show tW T n p = 21 from g)]
    have tb := tE_wd g hp
    obtain ⟨I1, a1, a2, a3⟩ := e_tAnd (d := d + 5) (J := J) hm h (fun w hw => by have := hW w hw; omega) ho (by omega) g
    rw [t_on (D := d + 9) a1]
    have ge := pG_e (T := T) (so := so) (f := f) (md := 5) (o := o) (p := tE T n p) (by omega) (yS_o6 h) tb.2 (by show 10 * (n - tE T n p) + 5 + 1 ≤ f; omega)
    refine tG_n a3 (tG_b (h0 o (tE T n p) (10 :: W) (C ++ cI ops) I1 (by omega) a2 (fun w hw => by have : 10 = w := Option.some.inj hw; omega)) (fun q I2 hq => tG_t ?_))
    obtain ⟨g1, g2, g3⟩ := ge.2 q
    have g1' : tE T n p + 1 ≤ (pG T n so f 5 o (tE T n p)).2.1 := g1
    unfold tq5 at hq
    rw [dnB_i (fun w hw => by have : 10 = w := Option.some.inj hw; omega)] at hq
    have := h2 o _ [10] W _ I2 (by omega) hq (fun w hw => List.mem_singleton.mp hw) hW
    refine tG_q this (fun _ I3 hq2 => ?_)
    obtain ⟨ops', C'', c1, c2, c3⟩ := hq2
    refine ⟨ops', C'', c1, ?_, c3⟩
    rw [c2]
    show _ = C ++ cI ops ++ (_ ++ (cI [10] ++ _))
    simp only [List.append_assoc]
  · rw [if_neg (show ¬ tW T n p = 21 from g)]
    exact ⟨fun _ => ⟨I, rfl, ⟨ops, C, ho, by show _ = (C ++ cI ops) ++ []; rw [List.append_nil], h, g⟩, yN_r⟩, fun c => absurd rfl c⟩
theorem t_9 (hm : st_Rm R) (h0 : tP6 T n so (d + 9) J R f) (h2 : tP9 T n so (d + 9) J R f) : tP9 T n so (d + 9) J R (f + 1) := by
  intro o p ops W C I hf h ho hW n21
  have hp := h.2.2.2.1
  rw [pG, if_neg (by decide), if_neg (by decide), if_neg (by decide), if_neg (by decide), if_neg (by decide), if_neg (by decide), if_neg (by decide), if_neg (by decide), if_neg (by decide)]
  by_cases g : tW T n p = (20 : Nat)
  · rw [if_pos (show tW T n p = 20 from g)]
    have tb := tE_wd g hp
    obtain ⟨I1, a1, a2, a3⟩ := e_tOr (d := d + 5) (J := J) hm h (fun w hw => by have := hW w hw; omega) ho (by omega) g
    rw [t_on (D := d + 9) a1]
    have ge := pG_e (T := T) (so := so) (f := f) (md := 6) (o := o) (p := tE T n p) (by omega) (yS_o6 h) tb.2 (by show 10 * (n - tE T n p) + 6 + 1 ≤ f; omega)
    refine tG_n a3 (tG_b (h0 o (tE T n p) (11 :: W) (C ++ cI ops) I1 (by omega) a2 (fun w hw => by have : 11 = w := Option.some.inj hw; omega)) (fun q I2 hq => tG_t ?_))
    obtain ⟨g1, g2, g3⟩ := ge.2 q
    have g1' : tE T n p + 1 ≤ (pG T n so f 6 o (tE T n p)).2.1 := g1
    obtain ⟨ops1, C1, q1, q2, q3, q4⟩ := hq
    have q3' : yS T n so 0 0 (pG T n so f 6 o (tE T n p)).2.1 o ((ops1 ++ [11]) ++ W) C1 I2 := by rw [List.append_assoc]; exact q3
    have := h2 o _ (ops1 ++ [11]) W C1 I2 (by omega) q3' (fun w hw => by
      rcases List.mem_append.mp hw with c | c
      · have := q1 w c; omega
      · have : w = 11 := List.mem_singleton.mp c; omega) hW q4
    refine tG_q this (fun _ I3 hq2 => ?_)
    obtain ⟨ops', C'', c1, c2, c3⟩ := hq2
    refine ⟨ops', C'', c1, ?_, c3⟩
    have em : cI (ops1 ++ [11]) = cI ops1 ++ cI [11] := List.map_append
    rw [c2, em, ← List.append_assoc C1, q2]
    show _ = C ++ cI ops ++ (_ ++ (cI [11] ++ _))
    simp only [List.append_assoc]
  · rw [if_neg (show ¬ tW T n p = 20 from g)]
    exact ⟨fun _ => ⟨I, rfl, ⟨ops, C, ho, by show _ = (C ++ cI ops) ++ []; rw [List.append_nil], h, n21, g⟩, yN_r⟩, fun c => absurd rfl c⟩
theorem t_all (hm : st_Rm R) : ∀ f, tP5 T n so (d + 9) J R f ∧ tP6 T n so (d + 9) J R f ∧ tP7 T n so (d + 9) J R f ∧ tP8 T n so (d + 9) J R f ∧ tP9 T n so (d + 9) J R f
  | 0 => ⟨fun _ _ _ _ _ h => by omega, fun _ _ _ _ _ h => by omega, fun _ _ _ _ _ _ h => by omega, fun _ _ _ _ _ h => by omega, fun _ _ _ _ _ _ h => by omega⟩
  | f + 1 => by
    obtain ⟨a5, a6, a7, a8, a9⟩ := t_all hm f
    exact ⟨t_5 hm a5 a8, t_6 a5 a7, t_7 hm a5 a7, t_8 a6 a9, t_9 hm a6 a9⟩
/-- all that waits is dropped -/
theorem e_t110 (hm : st_Rm R) : ∀ (ops : List Nat) (C : List Int) (I : tI), (∀ w ∈ ops, w < 12) → yS T n so 0 0 p o ops C I → ∃ I', (∀ d, am_E (d + 3) 276 110 [(0, .ref 64)] [] (I, J, R, 138) = some (none, (I', J, R, 138))) ∧ yS T n so 0 0 p o [] (C ++ cI ops) I' ∧ yN I I'
  | [], C, I, _, h => by
    have h5 := h.2.1.2.1
    have h97 : I 64 97 = am_i 0 := h.2.2.1.2.2.1
    refine ⟨I, fun d => ?_, by show yS _ _ _ _ _ _ _ _ (C ++ []) _; rw [List.append_nil]; exact h, yN_r⟩
    rw [sg_X12_qTest_110]
    simp (disch := first | assumption | omega) only [rM hm, ly_csm, ly_cam, ly_cf, ly_kd, ly_ln, ↓Bool.cond_decide, cond_true, cond_false, ↓bI_p, ↓bV_p, ↓bL_p, bIJ_s, bVJ_s, bLJ_s, ↓am_let_s, Nat.blt, Nat.ble, Bool.and_true, Bool.true_and, Bool.and_self, Int.cast_ofNat_Int, am_i_add, am_i_sub, am_i_mul, am_ok_i, am_i_cl, n_lt, n_le, n_eq, n_lt0, n_le0, n_0lt, n_0le, n_eq0, ne_eq, ↓reduceIte, not_true_eq_false, not_false_eq_true, and_true, true_and, and_false, false_and, eq_T, eq_F, lt_T, lt_F, le_T, le_F, qn_T, qn_F, and_F, b01_T, b01_F, e_isIn, Int32.toInt_toInt64, am_i_toInt, am_l_toInt, Int.toNat_natCast, Int.reduceToNat, Int.reduceAdd, Int.reduceSub, Int.reduceMul, Int.reduceNeg, Nat.reduceAdd, Nat.reduceMul, Nat.add_zero, Nat.mul_zero, Nat.zero_add, am_zb0, am_zb1, h5, h97, sg_X12_qTest_131]
  | w :: ops, C, I, hops, h => by
    have w12 := hops w List.mem_cons_self
    have h5 := h.2.1.2.1
    have hl : C.length + (ops.length + 1) + 1 + 0 ≤ p := h.2.2.2.2.1
    have n16 := h.1.1
    have hp := h.2.2.2.1
    have h97 : I 64 97 = am_i (ops.length + 1 : Nat) := h.2.2.1.2.2.1
    have lc : (C ++ [(w : Int)]).length = C.length + 1 := by rw [List.length_append]; rfl
    have hnb := h.2.2.2.2.2.1
    rw [nbW_c, if_neg (by omega)] at hnb
    obtain ⟨I1, a1, a2, a3⟩ := e_qDrops (J := J) hm h.2.2.1
    have y1 : yS T n so 0 0 p o ops (C ++ [(w : Int)]) I1 := yS_q h a2 a3 (by omega) (by omega) (by omega)
    obtain ⟨I2, b1, b2, b3⟩ := e_t110 hm ops (C ++ [(w : Int)]) I1 (fun x hx => hops x (List.mem_cons_of_mem _ hx)) y1
    refine ⟨I2, fun d => ?_, by unfold cI; rw [List.map_cons, List.append_cons]; exact b2, yN_t (yN_q a3) b3⟩
    rw [← b1 d, sg_X12_qTest_110]
    simp (disch := first | assumption | omega) only [rM hm, ly_csm, ly_cam, ly_cf, ly_kd, ly_ln, ↓Bool.cond_decide, cond_true, cond_false, ↓bI_p, ↓bV_p, ↓bL_p, bIJ_s, bVJ_s, bLJ_s, ↓am_let_s, Nat.blt, Nat.ble, Bool.and_true, Bool.true_and, Bool.and_self, Int.cast_ofNat_Int, am_i_add, am_i_sub, am_i_mul, am_ok_i, am_i_cl, n_lt, n_le, n_eq, n_lt0, n_le0, n_0lt, n_0le, n_eq0, ne_eq, ↓reduceIte, not_true_eq_false, not_false_eq_true, and_true, true_and, and_false, false_and, eq_T, eq_F, lt_T, lt_F, le_T, le_F, qn_T, qn_F, and_F, b01_T, b01_F, e_isIn, Int32.toInt_toInt64, am_i_toInt, am_l_toInt, Int.toNat_natCast, Int.reduceToNat, Int.reduceAdd, Int.reduceSub, Int.reduceMul, Int.reduceNeg, Nat.reduceAdd, Nat.reduceMul, Nat.add_zero, Nat.mul_zero, Nat.zero_add, am_zb0, am_zb1, h5, h97, a1]
/-- a test as a whole -/
theorem e_test (hm : st_Rm R) (h : yS T n so 0 0 p 0 [] C I) (hf : 10 * (n - p) + 8 + 1 ≤ f) : ∃ I', am_E (d + 10) 276 0 [(0, .ref 64)] [] (I, J, R, 138) = some (none, (I', J, R, 138)) ∧ ((pG T n so f 8 0 p).1 = 0 → yS T n so 0 0 (pG T n so f 8 0 p).2.1 0 [] (C ++ List.map encM (pG T n so f 8 0 p).2.2) I') ∧ ((pG T n so f 8 0 p).1 ≠ 0 → yE T n so 0 0 (pG T n so f 8 0 p).1 (pG T n so f 8 0 p).2.1 I') ∧ yN I I' := by
  obtain ⟨g1, g2⟩ := (t_all (d := d) (J := J) (T := T) (n := n) (so := so) hm f).2.2.2.1 0 p [] C I hf h (fun w hw => by cases hw)
  by_cases q : (pG T n so f 8 0 p).1 = 0
  · obtain ⟨I1, a1, ⟨ops, C', c1, c2, c3, c4, c5⟩, a3⟩ := g1 q
    rw [List.append_nil] at c3
    have n25 : ¬ 25 ∈ ops := fun c => by have := c1 25 c; omega
    have en := e_tEnd (J := J) hm c3 c4 c5 n25 (d + 5)
    have en' : am_E (d + 9) 277 0 [(0, .ref 64)] [] (I1, J, R, 138) = some (some (.int (am_i 0)), (atP T n (pG T n so f 8 0 p).2.1 I1, J, R, 138)) := en
    obtain ⟨I2, b1, b2, b3⟩ := e_t110 (J := J) hm ops C' _ (fun w hw => by have := c1 w hw; omega) (yS_a c3)
    rw [c2] at b2
    refine ⟨I2, ?_, fun _ => b2, fun c => absurd q c, yN_t a3 (yN_t yN_a b3)⟩
    rw [sg_X12_qTest_0]
    have a1' : am_E (d + 9 + 1) 276 2 [(0, .ref 64), (1, .int (am_i 1))] [] (I, J, R, 138) = tA2 (d + 9) J R I1 := a1
    rw [a1']
    unfold tA2
    rw [en']
    show am_E (d + 9 + 1) 276 105 [(0, .ref 64)] [] _ = _
    rw [sg_X12_qTest_105, sg_X12_qTest_2]
    exact b1 (d + 7)
  · obtain ⟨I1, a1, a2, a3⟩ := g2 q
    refine ⟨I1, ?_, fun c => absurd c q, fun _ => a2, a3⟩
    rw [sg_X12_qTest_0]
    exact a1
end MT3
