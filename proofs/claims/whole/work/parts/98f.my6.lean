/-! ===== the yard: a part ===== -/
section MY6
variable {D : Nat} {J : tJ} {R : tR} {K : yK} {K' : yK2} {F : tI → am_R} {T : Nat → Nat} {n so b z p o f : Nat} {W : List Nat} {C : List Int} {I I' I'' : tI} {S : am_R} {r : pR} {Q Q' : Nat → List Int → tI → Prop}
theorem y_er {e pl : Nat} {l : List tok} (hC : yC D J R K K' F) (h : am_E D 270 2 [(0, .ref 64), (1, .int (am_i 1))] [] (I, J, R, 138) = some (none, (I', J, R, 138))) (hE : yE T n so b z e pl I') (hn : yN I I') : yG T n so b z D J R K' F (y1 D J R K I) (e, pl, l) I Q := by
  refine ⟨fun c => absurd c hE.2.1, fun _ => ⟨I', ?_, hE, hn⟩⟩
  unfold y1
  rw [h]
  exact hC.2.1 I' (yE_5 hE)
theorem y_ok (hC : yC D J R K K' F) (h : am_E D 270 2 [(0, .ref 64), (1, .int (am_i 1))] [] (I, J, R, 138) = some (none, (I', J, R, 138))) (h5 : I' 64 5 = am_i 0) : y1 D J R K I = y2 D J R K' I' := by
  unfold y1
  rw [h]
  exact hC.1 I' h5
theorem y_eq (h : am_E D 270 2 [(0, .ref 64), (1, .int (am_i 1))] [] (I, J, R, 138) = am_E D 270 2 [(0, .ref 64), (1, .int (am_i 1))] [] (I', J, R, 138)) : y1 D J R K I = y1 D J R K I' := by
  unfold y1
  rw [h]
theorem y_e2 {e pl : Nat} {l : List tok} (hC : yC D J R K K' F) (h : am_E D 271 0 [(0, .ref 64)] [] (I, J, R, 138) = some (some (.int (am_i 0)), (I', J, R, 138))) (hE : yE T n so b z e pl I') (hn : yN I I') : yG T n so b z D J R K' F (y2 D J R K' I) (e, pl, l) I Q := by
  refine ⟨fun c => absurd c hE.2.1, fun _ => ⟨I', ?_, hE, hn⟩⟩
  unfold y2
  rw [h]
  exact hC.2.2.1 I' (yE_5 hE)
theorem op12 {ops : List Nat} (h : ∀ w ∈ ops, w = 1 ∨ w = 2 ∨ w = 3 ∨ w = 4) : ∀ w ∈ ops, w < 12 := fun w hw => by have := h w hw; omega
/-- behind a bracket's sum -/
theorem y_cl (hm : st_Rm R) (hD : 6 ≤ D) (hC : yC D J R K K' F) {w : Nat} {ops : List Nat} (h : yS T n so b z p (o + 1) (ops ++ w :: W) C I) (ho : ∀ w ∈ ops, w = 1 ∨ w = 2 ∨ w = 3 ∨ w = 4) (hw : w = 20 ∨ w = 23 ∨ w = 24) (hb : b ≤ W.length) (hn : nSg T n p) : yG T n so b z D J R K' F (y2 D J R K' I) (pA (aS T n p 41)) I (fun p' l' I'' => yq0 T n so b z o W (C ++ cI ops ++ clC w) p' l' I'') := by
  by_cases g : tSg T n p = (41 : Nat)
  · have e : aS T n p 41 = (0, tE T n p) := if_pos g
    rw [e]
    obtain ⟨I1, a1, a2, a3⟩ := e_gCl (J := J) hm h (op12 ho) hw hb g
    have a1' := a1 (D - 4)
    rw [show D - 4 + 4 = D by omega] at a1'
    refine ⟨fun _ => ⟨I1, by unfold y2; rw [a1'], ?_, a3⟩, fun c => absurd rfl c⟩
    show yq0 T n so b z o W (C ++ cI ops ++ clC w) (tE T n p) [] I1
    unfold yq0
    rw [List.append_nil]
    exact a2
  · have e : aS T n p 41 = (1, tAt T n p) := if_neg g
    rw [e]
    have ho20 : ∀ x ∈ ops, x < 20 := fun x hx => by have := ho x hx; omega
    have br : brF b (ops ++ w :: W) = w := brF_o (by omega) hb ho20
    obtain ⟨I1, a1, a2, a3⟩ := e_gBad (J := J) hm h hn g (by rw [br]; omega)
    have a1' := a1 (D - 4)
    rw [show D - 4 + 4 = D by omega] at a1'
    exact y_e2 hC a1' a2 a3
theorem y_0 (hm : st_Rm R) (hD : 6 ≤ D) (hC : yC D J R K K' F) (h0 : yP0 T n so b z D J R K K' F f) (h3 : yP3 T n so b z D J R K K' F f) : yP0 T n so b z D J R K K' F (f + 1) := by
  intro o p W C I hf h
  have hp := h.2.2.2.1
  have hb := h.2.2.2.2.2.2
  have wb := tW_b (T := T) (n := n) (p := p)
  have nv : tW T n p = -1 → ¬ vlB so (tW T n p) = true := fun c => by
    rw [c]; unfold vlB; rw [decide_eq_true_eq]; omega
  obtain ⟨d, rfl⟩ : ∃ d, D = d + 6 := ⟨D - 6, by omega⟩
  rw [pG, if_pos rfl]
  by_cases k2 : tK T n p = 2
  · rw [if_pos k2]
    have s40 : tSg T n p = -1 := if_neg (by omega)
    have w1 : tW T n p = -1 := if_neg (by omega)
    have st := e_p186 (d := d) (J := J) hm h (by omega) (by omega) (by omega) (by omega)
    obtain ⟨I1, a1, a2, a3, a4⟩ := e_pN (d := d) (J := J) hm (yS_a h) (nv w1)
    rw [← st] at a1
    refine ⟨fun e => ?_, fun e => ?_⟩
    · have y := a2 e
      exact ⟨I1, y_ok hC a1 y.2.1.2.1, y, yN_t yN_a a4⟩
    · exact (y_er (l := []) (Q := yq0 T n so b z o W C) hC a1 (a3 e) (yN_t yN_a a4)).2 e
  · rw [if_neg k2]
    by_cases g : tSg T n p = 40
    · rw [if_pos g]
      obtain ⟨I1, a1, a2, a3⟩ := e_p40 (d := d + 1) (J := J) hm h g
      have tb := tE_sg (c := 40) g hp
      by_cases q : 6 ≤ o
      · rw [if_pos q]
        exact y_er hC (a2 q).1 (a2 q).2 a3
      · rw [if_neg q]
        obtain ⟨b1, b2⟩ := a1 (by omega)
        rw [y_eq (D := d + 6) b1]
        refine yG_n a3 (yG_b (h3 (o + 1) (tE T n p) (20 :: W) C I1 (by omega) b2 (fun w hw => by have : 20 = w := Option.some.inj hw; omega)) (fun _ I2 hq => ?_))
        obtain ⟨ops, C', q1, q2, q3, q4⟩ := hq
        refine yG_q (y_cl hm hD hC q3 q1 (Or.inl rfl) hb q4) (fun _ I3 hq3 => ?_)
        have ec : C' ++ cI ops ++ clC 20 = C ++ List.map encM (pG T n so f 3 (o + 1) (tE T n p)).2.2 := by rw [q2]; exact List.append_nil _
        unfold yq0 at hq3 ⊢
        rw [ec, List.append_assoc] at hq3
        exact hq3
    · rw [if_neg g]
      by_cases w24 : tW T n p = 24 ∨ tW T n p = 25
      · rw [if_pos w24]
        obtain ⟨I1, a1, a2, a3⟩ := e_pMM (d := d) (J := J) hm h w24
        have tb : p < tE T n p ∧ tE T n p ≤ n := by
          rcases w24 with c | c
          · exact tE_wd (c := 24) c hp
          · exact tE_wd (c := 25) c hp
        have hv : ∃ v : Int, b01 (tW T n p = ((24 : Nat) : Int)) = am_i v ∧ (v = 0 ∨ v = 1) ∧ List.map encM [(3, (tW T n p).toNat)] = clC ((if v = 1 then 21 else 22) + 2) := by
          rcases w24 with c | c
          · exact ⟨1, b01_t c, Or.inr rfl, by rw [c]; rfl⟩
          · exact ⟨0, b01_f (by omega), Or.inl rfl, by rw [c]; rfl⟩
        obtain ⟨v, ev, hv, en⟩ := hv
        rw [ev] at a1
        obtain ⟨I2, c1, c2, c3, c4⟩ := e_pM2 (d := d) (J := J) hm hv a2
        have hw21 : (if v = 1 then 21 else 22) = 21 ∨ (if v = 1 then 21 else 22) = 22 := by split <;> omega
        generalize (if v = 1 then 21 else 22) = w at *
        by_cases g2 : tSg T n (tE T n p) = 40
        · rw [if_pos g2]
          have tb2 := tE_sg (c := 40) g2 tb.2
          by_cases q : 6 ≤ o
          · rw [if_pos q]
            have e := (c2 g2 q).1
            rw [← a1] at e
            exact y_er hC e (c2 g2 q).2 (yN_t a3 c4)
          · rw [if_neg q]
            obtain ⟨b1, b2⟩ := c1 g2 (by omega)
            rw [← a1] at b1
            rw [y_eq b1]
            have ge := pG_e (T := T) (so := so) (f := f) (md := 3) (o := o + 1) (p := tE T n (tE T n p)) (by omega) (by omega) tb2.2 (by show 10 * (n - tE T n (tE T n p)) + 3 + 1 ≤ f; omega)
            refine yG_n (yN_t a3 c4) (yG_b (h3 (o + 1) _ (w :: W) C I2 (by omega) b2 (fun x hx => by have : w = x := Option.some.inj hx; omega)) (fun q0 I3 hq => ?_))
            obtain ⟨g1, g2', g3⟩ := ge.2 q0
            have g1' : tE T n (tE T n p) + 1 ≤ (pG T n so f 3 (o + 1) (tE T n (tE T n p))).2.1 := g1
            generalize pG T n so f 3 (o + 1) (tE T n (tE T n p)) = r1 at *
            obtain ⟨ops, C', q1, q2, q3, q4⟩ := hq
            obtain ⟨I4, m1, m2, m3⟩ := e_gCm (J := J) hm q3 (op12 q1) hw21 hb q4
            by_cases g44 : tSg T n r1.2.1 = (44 : Nat)
            · have eS : pA (aS T n r1.2.1 44) = pT (tE T n r1.2.1) [] := by unfold aS; rw [if_pos g44]; rfl
              rw [eS]
              obtain ⟨n1, n2⟩ := m1 g44
              have n1' := n1 (d + 2)
              have tb3 := tE_sg g44 g2'
              rw [y_on hC n1' n2.2.1.2.1]
              refine yG_t (yG_n m3 (yG_b (h3 (o + 1) _ ((w + 2) :: W) _ I4 (by omega) n2 (fun x hx => by have : w + 2 = x := Option.some.inj hx; omega)) (fun q5 I5 hq5 => ?_)))
              generalize pG T n so f 3 (o + 1) (tE T n r1.2.1) = r2 at *
              obtain ⟨ops2, C2, s1, s2, s3, s4⟩ := hq5
              refine yG_b (Q := fun p' l' I'' => l' = [] ∧ yq0 T n so b z o W (C2 ++ cI ops2 ++ clC (w + 2)) p' l' I'') ?_ (fun _ I6 hq6 => ?_)
              · refine yG_q (y_cl hm hD hC s3 s1 (by omega) hb s4) (fun _ I6 hq6 => ⟨rfl, hq6⟩)
              · refine ⟨fun _ => ⟨I6, rfl, ?_, yN_r⟩, fun c => absurd rfl c⟩
                obtain ⟨-, hq6⟩ := hq6
                have ec : C2 ++ cI ops2 ++ clC (w + 2) ++ [] = C ++ (List.map encM r1.2.2 ++ (List.map encM ([] : List tok) ++ (List.map encM r2.2.2 ++ (List.map encM (pA (aS T n r2.2.1 41)).2.2 ++ List.map encM [(3, (tW T n p).toNat)])))) := by
                  rw [s2, en, q2, List.append_nil]
                  show C ++ List.map encM r1.2.2 ++ List.map encM r2.2.2 ++ clC (w + 2) = C ++ (List.map encM r1.2.2 ++ ([] ++ (List.map encM r2.2.2 ++ ([] ++ clC (w + 2)))))
                  simp only [List.append_assoc, List.nil_append]
                have hq7 : yq0 T n so b z o W (C2 ++ cI ops2 ++ clC (w + 2)) (pA (aS T n r2.2.1 41)).2.1 [] I6 := hq6
                unfold yq0 at hq7
                rw [ec] at hq7
                exact hq7
            · have eS : pA (aS T n r1.2.1 44) = (1, tAt T n r1.2.1, []) := by unfold aS; rw [if_neg g44]; rfl
              rw [eS, pB_n (show (1 : Nat) ≠ 0 by decide)]
              obtain ⟨n1, n2⟩ := m2 g44
              exact y_e2 hC (n1 (d + 2)) n2 m3
        · rw [if_neg g2]
          have e := (c3 g2).1
          rw [← a1] at e
          exact y_er hC e (c3 g2).2 (yN_t a3 c4)
      · rw [if_neg w24]
        by_cases w9 : so = 3 ∧ (tW T n p = 9 ∨ tW T n p = 5)
        · rw [if_pos w9]
          obtain ⟨I1, a1, a2, a3⟩ := e_pOf (d := d) (J := J) hm h w9.1 w9.2
          have tb : p < tE T n p ∧ tE T n p ≤ n := by
            rcases w9.2 with c | c
            · exact tE_wd (c := 9) c hp
            · exact tE_wd (c := 5) c hp
          have en : List.map encM [(5, (tW T n p).toNat)] = cI [if tW T n p = 9 then 60 else 61] := by
            rcases w9.2 with c | c <;> rw [c] <;> rfl
          have hw60 : 60 ≤ (if tW T n p = 9 then 60 else 61) := by split <;> omega
          generalize (if tW T n p = 9 then 60 else 61) = w at *
          by_cases q : 6 ≤ o
          · rw [if_pos q]
            exact y_er hC (a2 q).1 (a2 q).2 a3
          · rw [if_neg q]
            obtain ⟨b1, b2⟩ := a1 (by omega)
            rw [y_eq b1]
            refine yG_n a3 (yG_b (h0 (o + 1) (tE T n p) (w :: W) C I1 (by omega) b2) (fun _ I2 hq => ?_))
            refine ⟨fun _ => ⟨I2, rfl, ?_, yN_r⟩, fun c => absurd rfl c⟩
            show yq0 T n so b z o W C _ (_ ++ List.map encM [(5, (tW T n p).toNat)]) I2
            rw [en]
            unfold yq0 at hq ⊢
            have eE : enB b (w :: W) (C ++ List.map encM (pG T n so f 0 (o + 1) (tE T n p)).2.2) (o + 1) = enB b W (C ++ List.map encM (pG T n so f 0 (o + 1) (tE T n p)).2.2 ++ [(w : Int)]) (o + 1 - 1) := if_pos ⟨by omega, hw60⟩
            rw [eE, List.append_assoc] at hq
            exact hq
        · rw [if_neg w9]
          have st := e_p186 (d := d) (J := J) hm h g (fun c => w24 (Or.inl c)) (fun c => w24 (Or.inr c)) w9
          by_cases v : vlB so (tW T n p) = true
          · rw [if_pos v]
            obtain ⟨I1, a1, a2, a3⟩ := e_pW (d := d) (J := J) hm (yS_a h) v
            rw [← st] at a1
            exact ⟨fun _ => ⟨I1, y_ok hC a1 a2.2.1.2.1, a2, yN_t yN_a a3⟩, fun c => absurd rfl c⟩
          · rw [if_neg v]
            obtain ⟨I1, a1, a2, a3, a4⟩ := e_pN (d := d) (J := J) hm (yS_a h) v
            have ea : aN T n p 0 9999 = (1, tAt T n p) := if_neg k2
            rw [ea] at a3
            rw [← st] at a1
            exact y_er hC a1 (a3 (show (1 : Nat) ≠ 0 by decide)) (yN_t yN_a a4)
end MY6
