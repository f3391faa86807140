/-! ===== the yard against the grammar ===== -/
abbrev cI (l : List Nat) : List Int := List.map (fun w : Nat => (w : Int)) l
abbrev yK : Type := am_Mem → am_R
abbrev yK2 : Type := Int32 → am_Mem → am_R
noncomputable def y1 (D : Nat) (J : tJ) (R : tR) (K : yK) (I : tI) : am_R := am_bV (am_E D 270 2 [(0, .ref 64), (1, .int (am_i 1))] [] (I, J, R, 138)) K
noncomputable def y2 (D : Nat) (J : tJ) (R : tR) (K' : yK2) (I : tI) : am_R := am_bI (am_E D 271 0 [(0, .ref 64)] [] (I, J, R, 138)) K'
/-- where they stand: the loop of qSums -/
def yC (D : Nat) (J : tJ) (R : tR) (K : yK) (K' : yK2) (F : tI → am_R) : Prop := (∀ I : tI, I 64 5 = am_i 0 → K (I, J, R, 138) = y2 D J R K' I) ∧ (∀ I : tI, (I 64 5 = 0) = False → K (I, J, R, 138) = F I) ∧ (∀ I : tI, (I 64 5 = 0) = False → K' (am_i 0) (I, J, R, 138) = F I) ∧ (∀ I : tI, I 64 5 = am_i 0 → K' (am_i 1) (I, J, R, 138) = y1 D J R K I)
/-- what comes out: goes on, or failed -/
def yG (T : Nat → Nat) (n so b z D : Nat) (J : tJ) (R : tR) (K' : yK2) (F : tI → am_R) (S : am_R) (r : pR) (I : tI) (Q : Nat → List Int → tI → Prop) : Prop := (r.1 = 0 → ∃ I', S = y2 D J R K' I' ∧ Q r.2.1 (r.2.2.map encM) I' ∧ yN I I') ∧ (r.1 ≠ 0 → ∃ I', S = F I' ∧ yE T n so b z r.1 r.2.1 I' ∧ yN I I')
def yq0 (T : Nat → Nat) (n so b z o : Nat) (W : List Nat) (C : List Int) (p : Nat) (l : List Int) (I : tI) : Prop := yS T n so b z p (enB b W (C ++ l) o).2.2 (enB b W (C ++ l) o).1 (enB b W (C ++ l) o).2.1 I
def yq1 (T : Nat → Nat) (n so b z o : Nat) (W : List Nat) (C : List Int) (p : Nat) (l : List Int) (I : tI) : Prop := ∃ (ops : List Nat) (C' : List Int), (∀ w ∈ ops, w = 3 ∨ w = 4) ∧ C' ++ cI ops = C ++ l ∧ yS T n so b z p o (ops ++ W) C' I ∧ ¬ tSg T n p = (42 : Nat) ∧ ¬ tSg T n p = (47 : Nat)
def yq3 (T : Nat → Nat) (n so b z o : Nat) (W : List Nat) (C : List Int) (p : Nat) (l : List Int) (I : tI) : Prop := ∃ (ops : List Nat) (C' : List Int), (∀ w ∈ ops, w = 1 ∨ w = 2 ∨ w = 3 ∨ w = 4) ∧ C' ++ cI ops = C ++ l ∧ yS T n so b z p o (ops ++ W) C' I ∧ nSg T n p
section MY5
variable {D : Nat} {J : tJ} {R : tR} {K : yK} {K' : yK2} {F : tI → am_R} {T : Nat → Nat} {n so b z p o f : Nat} {W : List Nat} {C : List Int} {I I' I'' : tI} {S : am_R} {r : pR} {Q Q' : Nat → List Int → tI → Prop}
theorem yG_b {k : Nat → pR} (h : yG T n so b z D J R K' F S r I Q) (hk : r.1 = 0 → ∀ I', Q r.2.1 (r.2.2.map encM) I' → yG T n so b z D J R K' F (y2 D J R K' I') (k r.2.1) I' (fun p' l I'' => Q' p' (r.2.2.map encM ++ l) I'')) : yG T n so b z D J R K' F S (pB r k) I Q' := by
  by_cases q : r.1 = 0
  · rw [pB_0 q]
    obtain ⟨I1, a1, a2, a3⟩ := h.1 q
    obtain ⟨g1, g2⟩ := hk q I1 a2
    refine ⟨fun e => ?_, fun e => ?_⟩
    · obtain ⟨I2, b1, b2, b3⟩ := g1 e
      refine ⟨I2, by rw [a1, b1], ?_, yN_t a3 b3⟩
      show Q' (k r.2.1).2.1 ((r.2.2 ++ (k r.2.1).2.2).map encM) I2
      rw [List.map_append]
      exact b2
    · obtain ⟨I2, b1, b2, b3⟩ := g2 e
      exact ⟨I2, by rw [a1, b1], b2, yN_t a3 b3⟩
  · rw [pB_n q]
    exact ⟨fun e => absurd e q, h.2⟩
theorem yG_n (hn : yN I I') (h : yG T n so b z D J R K' F S r I' Q) : yG T n so b z D J R K' F S r I Q := ⟨fun e => by obtain ⟨I2, b1, b2, b3⟩ := h.1 e; exact ⟨I2, b1, b2, yN_t hn b3⟩, fun e => by obtain ⟨I2, b1, b2, b3⟩ := h.2 e; exact ⟨I2, b1, b2, yN_t hn b3⟩⟩
theorem yG_q (h : yG T n so b z D J R K' F S r I Q) (hq : r.1 = 0 → ∀ I', Q r.2.1 (r.2.2.map encM) I' → Q' r.2.1 (r.2.2.map encM) I') : yG T n so b z D J R K' F S r I Q' := ⟨fun e => by obtain ⟨I2, b1, b2, b3⟩ := h.1 e; exact ⟨I2, b1, hq e I2 b2, b3⟩, h.2⟩
theorem enB_i (h : ∀ w, W.head? = some w → w < 60) : enB b W C o = (W, C, o) := by
  cases W with
  | nil => rfl
  | cons w W => exact if_neg (fun c => by have := h w rfl; omega)
/-- the five modes, for one fuel -/
def yP0 (T : Nat → Nat) (n so b z D : Nat) (J : tJ) (R : tR) (K : yK) (K' : yK2) (F : tI → am_R) (f : Nat) : Prop := ∀ (o p : Nat) (W : List Nat) (C : List Int) (I : tI), 10 * (n - p) + 0 + 1 ≤ f → yS T n so b z p o W C I → yG T n so b z D J R K' F (y1 D J R K I) (pG T n so f 0 o p) I (yq0 T n so b z o W C)
def yP1 (T : Nat → Nat) (n so b z D : Nat) (J : tJ) (R : tR) (K : yK) (K' : yK2) (F : tI → am_R) (f : Nat) : Prop := ∀ (o p : Nat) (W : List Nat) (C : List Int) (I : tI), 10 * (n - p) + 1 + 1 ≤ f → yS T n so b z p o W C I → (∀ w, W.head? = some w → w ≠ 3 ∧ w ≠ 4 ∧ w < 60) → yG T n so b z D J R K' F (y1 D J R K I) (pG T n so f 1 o p) I (yq1 T n so b z o W C)
def yP2 (T : Nat → Nat) (n so b z D : Nat) (J : tJ) (R : tR) (K' : yK2) (F : tI → am_R) (f : Nat) : Prop := ∀ (o p : Nat) (ops W : List Nat) (C : List Int) (I : tI), 10 * (n - p) + 0 + 1 ≤ f → yS T n so b z p o (ops ++ W) C I → (∀ w ∈ ops, w = 3 ∨ w = 4) → b ≤ W.length → (∀ w, W.head? = some w → w ≠ 3 ∧ w ≠ 4 ∧ w < 60) → yG T n so b z D J R K' F (y2 D J R K' I) (pG T n so f 2 o p) I (yq1 T n so b z o W (C ++ cI ops))
def yP3 (T : Nat → Nat) (n so b z D : Nat) (J : tJ) (R : tR) (K : yK) (K' : yK2) (F : tI → am_R) (f : Nat) : Prop := ∀ (o p : Nat) (W : List Nat) (C : List Int) (I : tI), 10 * (n - p) + 3 + 1 ≤ f → yS T n so b z p o W C I → (∀ w, W.head? = some w → w ≠ 1 ∧ w ≠ 2 ∧ w ≠ 3 ∧ w ≠ 4 ∧ w < 60) → yG T n so b z D J R K' F (y1 D J R K I) (pG T n so f 3 o p) I (yq3 T n so b z o W C)
def yP4 (T : Nat → Nat) (n so b z D : Nat) (J : tJ) (R : tR) (K' : yK2) (F : tI → am_R) (f : Nat) : Prop := ∀ (o p : Nat) (ops W : List Nat) (C : List Int) (I : tI), 10 * (n - p) + 0 + 1 ≤ f → yS T n so b z p o (ops ++ W) C I → (∀ w ∈ ops, w = 1 ∨ w = 2 ∨ w = 3 ∨ w = 4) → b ≤ W.length → (∀ w, W.head? = some w → w ≠ 1 ∧ w ≠ 2 ∧ w ≠ 3 ∧ w ≠ 4 ∧ w < 60) → ¬ tSg T n p = (42 : Nat) → ¬ tSg T n p = (47 : Nat) → yG T n so b z D J R K' F (y2 D J R K' I) (pG T n so f 4 o p) I (yq3 T n so b z o W (C ++ cI ops))
theorem yS_o6 (h : yS T n so b z p o W C I) : o ≤ 6 := h.2.2.1.2.2.2.2.2.2.2.2.2.2
theorem y_1 (h0 : yP0 T n so b z D J R K K' F f) (h2 : yP2 T n so b z D J R K' F f) : yP1 T n so b z D J R K K' F (f + 1) := by
  intro o p W C I hf h hW
  have e : pG T n so (f + 1) 1 o p = pB (pG T n so f 0 o p) (fun p1 => pG T n so f 2 o p1) := by
    rw [pG, if_neg (by decide), if_pos rfl]
  rw [e]
  have ge := pG_e (T := T) (so := so) (f := f) (md := 0) (o := o) (p := p) (by omega) (yS_o6 h) h.2.2.2.1 (by show 10 * (n - p) + 0 + 1 ≤ f; omega)
  refine yG_b (h0 o p W C I (by omega) h) (fun q I1 hq => ?_)
  obtain ⟨g1, g2, g3⟩ := ge.2 q
  have g1' : p + 1 ≤ (pG T n so f 0 o p).2.1 := g1
  unfold yq0 at hq
  rw [enB_i (fun w hw => (hW w hw).2.2)] at hq
  have := h2 o _ [] W _ I1 (by omega) hq (fun w hw => absurd hw List.not_mem_nil) h.2.2.2.2.2.2 hW
  refine yG_q this (fun _ I2 hq2 => ?_)
  obtain ⟨ops, C', a1, a2, a3⟩ := hq2
  exact ⟨ops, C', a1, by rw [a2]; show (C ++ _) ++ [] ++ _ = _; rw [List.append_nil, List.append_assoc], a3⟩
theorem y_3 (h0 : yP1 T n so b z D J R K K' F f) (h2 : yP4 T n so b z D J R K' F f) : yP3 T n so b z D J R K K' F (f + 1) := by
  intro o p W C I hf h hW
  have e : pG T n so (f + 1) 3 o p = pB (pG T n so f 1 o p) (fun p1 => pG T n so f 4 o p1) := by
    rw [pG, if_neg (by decide), if_neg (by decide), if_neg (by decide), if_pos rfl]
  rw [e]
  have ge := pG_e (T := T) (so := so) (f := f) (md := 1) (o := o) (p := p) (by omega) (yS_o6 h) h.2.2.2.1 (by show 10 * (n - p) + 1 + 1 ≤ f; omega)
  refine yG_b (h0 o p W C I (by omega) h (fun w hw => (hW w hw).2.2)) (fun q I1 hq => ?_)
  obtain ⟨g1, g2, g3⟩ := ge.2 q
  have g1' : p + 1 ≤ (pG T n so f 1 o p).2.1 := g1
  obtain ⟨ops, C', a1, a2, a3, a4, a5⟩ := hq
  have := h2 o _ ops W C' I1 (by omega) a3 (fun w hw => by have := a1 w hw; omega) h.2.2.2.2.2.2 hW a4 a5
  refine yG_q this (fun _ I2 hq2 => ?_)
  obtain ⟨ops', C'', c1, c2, c3⟩ := hq2
  exact ⟨ops', C'', c1, by rw [c2, a2, List.append_assoc], c3⟩
theorem yG_t {k : Nat → pR} {t : List tok} (h : yG T n so b z D J R K' F S (k p) I (fun p' l I'' => Q' p' (t.map encM ++ l) I'')) : yG T n so b z D J R K' F S (pB (pT p t) k) I Q' := by
  rw [pB_0 rfl]
  refine ⟨fun e => ?_, fun e => h.2 e⟩
  obtain ⟨I2, b1, b2, b3⟩ := h.1 e
  refine ⟨I2, b1, ?_, b3⟩
  show Q' (k p).2.1 ((t ++ (k p).2.2).map encM) I2
  rw [List.map_append]
  exact b2
theorem y_on (hC : yC D J R K K' F) (h : am_E D 271 0 [(0, .ref 64)] [] (I, J, R, 138) = some (some (.int (am_i 1)), (I', J, R, 138))) (h5 : I' 64 5 = am_i 0) : y2 D J R K' I = y1 D J R K I' := by
  unfold y2
  rw [h]
  exact hC.2.2.2 I' h5
theorem y_2 (hm : st_Rm R) (hD : 6 ≤ D) (hC : yC D J R K K' F) (h0 : yP0 T n so b z D J R K K' F f) (h2 : yP2 T n so b z D J R K' F f) : yP2 T n so b z D J R K' F (f + 1) := by
  intro o p ops W C I hf h ho hb hW
  have hp := h.2.2.2.1
  rw [pG, if_neg (by decide), if_neg (by decide), if_pos rfl]
  by_cases g : tSg T n p = 42 ∨ tSg T n p = 47
  · rw [if_pos g]
    have gv : ∃ v : Nat, ((tSg T n p = (42 : Nat) ∧ v = 3) ∨ (tSg T n p = (47 : Nat) ∧ v = 4)) ∧ List.map encM [(3, (tSg T n p).toNat)] = cI [v] ∧ (v = 3 ∨ v = 4) := by
      rcases g with g | g
      · exact ⟨3, Or.inl ⟨g, rfl⟩, by rw [g]; rfl, Or.inl rfl⟩
      · exact ⟨4, Or.inr ⟨g, rfl⟩, by rw [g]; rfl, Or.inr rfl⟩
    obtain ⟨v, gv, ev, hv⟩ := gv
    have tb : p < tE T n p ∧ tE T n p ≤ n := by
      rcases gv with ⟨g, -⟩ | ⟨g, -⟩ <;> exact tE_sg g hp
    obtain ⟨I1, a1, a2, a3⟩ := e_gMul (J := J) hm h (fun w hw => ⟨(hW w hw).1, (hW w hw).2.1⟩) ho hb gv
    have a1' := a1 (D - 4)
    rw [show D - 4 + 4 = D by omega] at a1'
    rw [y_on hC a1' a2.2.1.2.1]
    have ge := pG_e (T := T) (so := so) (f := f) (md := 0) (o := o) (p := tE T n p) (by omega) (yS_o6 h) tb.2 (by show 10 * (n - tE T n p) + 0 + 1 ≤ f; omega)
    refine yG_n a3 (yG_b (h0 o (tE T n p) (v :: W) (C ++ cI ops) I1 (by omega) a2) (fun q I2 hq => yG_t ?_))
    obtain ⟨g1, g2, g3⟩ := ge.2 q
    have g1' : tE T n p + 1 ≤ (pG T n so f 0 o (tE T n p)).2.1 := g1
    unfold yq0 at hq
    rw [enB_i (fun w hw => by have : v = w := Option.some.inj hw; omega)] at hq
    have := h2 o _ [v] W _ I2 (by omega) hq (fun w hw => by have : w = v := List.mem_singleton.mp hw; omega) hb hW
    refine yG_q this (fun _ I3 hq2 => ?_)
    obtain ⟨ops', C'', c1, c2, c3⟩ := hq2
    refine ⟨ops', C'', c1, ?_, c3⟩
    rw [c2, ev]
    simp only [List.append_assoc]
  · rw [if_neg g]
    exact ⟨fun _ => ⟨I, rfl, ⟨ops, C, ho, by show _ = (C ++ cI ops) ++ []; rw [List.append_nil], h, fun c => g (Or.inl c), fun c => g (Or.inr c)⟩, yN_r⟩, fun c => absurd rfl c⟩
theorem y_4 (hm : st_Rm R) (hD : 6 ≤ D) (hC : yC D J R K K' F) (h0 : yP1 T n so b z D J R K K' F f) (h2 : yP4 T n so b z D J R K' F f) : yP4 T n so b z D J R K' F (f + 1) := by
  intro o p ops W C I hf h ho hb hW n42 n47
  have hp := h.2.2.2.1
  rw [pG, if_neg (by decide), if_neg (by decide), if_neg (by decide), if_neg (by decide), if_pos rfl]
  by_cases g : tSg T n p = 43 ∨ tSg T n p = 45
  · rw [if_pos g]
    have gv : ∃ v : Nat, ((tSg T n p = (43 : Nat) ∧ v = 1) ∨ (tSg T n p = (45 : Nat) ∧ v = 2)) ∧ List.map encM [(3, (tSg T n p).toNat)] = cI [v] ∧ (v = 1 ∨ v = 2) := by
      rcases g with g | g
      · exact ⟨1, Or.inl ⟨g, rfl⟩, by rw [g]; rfl, Or.inl rfl⟩
      · exact ⟨2, Or.inr ⟨g, rfl⟩, by rw [g]; rfl, Or.inr rfl⟩
    obtain ⟨v, gv, ev, hv⟩ := gv
    have tb : p < tE T n p ∧ tE T n p ≤ n := by
      rcases gv with ⟨g, -⟩ | ⟨g, -⟩ <;> exact tE_sg g hp
    obtain ⟨I1, a1, a2, a3⟩ := e_gAdd (J := J) hm h (fun w hw => ⟨(hW w hw).1, (hW w hw).2.1, (hW w hw).2.2.1, (hW w hw).2.2.2.1⟩) ho hb gv
    have a1' := a1 (D - 4)
    rw [show D - 4 + 4 = D by omega] at a1'
    rw [y_on hC a1' a2.2.1.2.1]
    have ge := pG_e (T := T) (so := so) (f := f) (md := 1) (o := o) (p := tE T n p) (by omega) (yS_o6 h) tb.2 (by show 10 * (n - tE T n p) + 1 + 1 ≤ f; omega)
    refine yG_n a3 (yG_b (h0 o (tE T n p) (v :: W) (C ++ cI ops) I1 (by omega) a2 (fun w hw => by have : v = w := Option.some.inj hw; omega)) (fun q I2 hq => yG_t ?_))
    obtain ⟨g1, g2, g3⟩ := ge.2 q
    have g1' : tE T n p + 1 ≤ (pG T n so f 1 o (tE T n p)).2.1 := g1
    obtain ⟨ops1, C1, q1, q2, q3, q4, q5⟩ := hq
    have q3' : yS T n so b z (pG T n so f 1 o (tE T n p)).2.1 o ((ops1 ++ [v]) ++ W) C1 I2 := by rw [List.append_assoc]; exact q3
    have := h2 o _ (ops1 ++ [v]) W C1 I2 (by omega) q3' (fun w hw => by
      rcases List.mem_append.mp hw with c | c
      · have := q1 w c; omega
      · have : w = v := List.mem_singleton.mp c; omega) hb hW q4 q5
    refine yG_q this (fun _ I3 hq2 => ?_)
    obtain ⟨ops', C'', c1, c2, c3⟩ := hq2
    refine ⟨ops', C'', c1, ?_, c3⟩
    have em : cI (ops1 ++ [v]) = cI ops1 ++ cI [v] := List.map_append
    rw [c2, ev, em, ← List.append_assoc C1, q2]
    simp only [List.append_assoc]
  · rw [if_neg g]
    exact ⟨fun _ => ⟨I, rfl, ⟨ops, C, ho, by show _ = (C ++ cI ops) ++ []; rw [List.append_nil], h, n42, n47, fun c => g (Or.inl c), fun c => g (Or.inr c)⟩, yN_r⟩, fun c => absurd rfl c⟩
end MY5
