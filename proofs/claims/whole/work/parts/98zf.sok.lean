/-! ===== a sound that is being told stays one: the other statements ===== -/
section SOK2
variable {T : Nat → Nat} {n p i : Nat} {X : sSt}
theorem sOK_i {i' : Nat} (h : sOK n p i X) (hi : i ≤ i') : sOK n p i' X := by
  obtain ⟨⟨a1, a2, a3, a4, a5, a6, a7, a8, a9⟩, b⟩ := h
  exact ⟨⟨a1, a2, a3, a4, by omega, a6, a7, a8, a9⟩, b⟩
theorem sNm_s {v b : Nat} {l : List sBo} : (sSc v l b).map sBo.nm = l.map sBo.nm := by
  apply List.ext_getElem?
  intro j
  rw [List.getElem?_map, List.getElem?_map, sSc_g]
  by_cases q : j = b
  · rw [if_pos q]
    cases l[j]? <;> rfl
  · rw [if_neg q]
theorem sOK_score (h : sOK n p i X) (hw : 0 ≤ tW T n p) (e : (sdScore T n X p).1 = 0) : p < (sdScore T n X p).2.1 ∧ sOK n (sdScore T n X p).2.1 i (sdScore T n X p).2.2 := by
  have hp : p ≤ n := h.1.2.2.2.2.2.2.2.2
  have te := tE_s (T := T) (n := n) (p := p) hp (tW_0 hw)
  unfold sdScore at e ⊢
  have mb := aM_b (T := T) te.2
  by_cases q1 : (aM T n (tE T n p)).1 = 0
  · rw [sI_0 q1] at e ⊢
    obtain ⟨m1, m2⟩ := mb.1 q1
    by_cases q2 : sWh (tL T n (tE T n p)) X.bn = X.bn.length
    · rw [if_pos q2] at e
      exact absurd e (by show ¬ ((3 : Nat) = 0); decide)
    · rw [if_neg q2] at e ⊢
      have nb := aN_b (T := T) (lo := 0) (hi := 7) m2
      by_cases q3 : (aN T n (aM T n (tE T n p)).2 0 7).1 = 0
      · rw [sI_0 q3] at e ⊢
        obtain ⟨z1, z2, z3, z4, z5, z6, z7⟩ := nb.1 q3
        by_cases q6 : sLn X.bn (sWh (tL T n (tE T n p)) X.bn) = 6
        · rw [if_pos q6] at e
          exact absurd e (by show ¬ ((5 : Nat) = 0); decide)
        · rw [if_neg q6]
          obtain ⟨⟨a1, a2, a3, a4, a5, a6, a7, a8, a9⟩, b1, b2, b3, b4, b5⟩ := h
          refine ⟨by show p < (aN T n (aM T n (tE T n p)).2 0 7).2; omega, ⟨a1, a2, a3, a4, a5, ?_, a7, by show X.sz + 4 ≤ (aN T n (aM T n (tE T n p)).2 0 7).2; omega, z7⟩, fun x hx => ?_, b2, fun l hl => ?_, b4, b5⟩
          · show (sSc _ X.bn _).length ≤ 6
            rw [sSc_l]; exact a6
          · have hx' : x ∈ sSc (tV T n (aM T n (tE T n p)).2) X.bn (sWh (tL T n (tE T n p)) X.bn) := hx
            obtain ⟨j, hj⟩ := List.mem_iff_getElem?.mp hx'
            rw [sSc_g] at hj
            by_cases z : j = sWh (tL T n (tE T n p)) X.bn
            · rw [if_pos z] at hj
              cases hq : X.bn[j]? with
              | none => rw [hq] at hj; cases hj
              | some x0 =>
                rw [hq] at hj
                have ex := Option.some.inj hj
                subst ex
                obtain ⟨y1, y2, y3, y4, y5⟩ := b1 x0 (List.mem_of_getElem? hq)
                have sl : sLn X.bn (sWh (tL T n (tE T n p)) X.bn) = x0.sc.length := by unfold sLn; rw [← z, hq]; rfl
                refine ⟨y1, y2, y3, ?_, fun v hv => ?_⟩
                · show (x0.sc ++ [_]).length ≤ 6
                  rw [List.length_append]
                  show x0.sc.length + 1 ≤ 6
                  omega
                · have hv' : v ∈ x0.sc ++ [tV T n (aM T n (tE T n p)).2] := hv
                  rcases List.mem_append.mp hv' with c | c
                  · exact y5 v c
                  · have : v = tV T n (aM T n (tE T n p)).2 := List.mem_singleton.mp c
                    omega
            · rw [if_neg z] at hj
              exact b1 x (List.mem_of_getElem? hj)
          · have hl' : l ∈ (sSc (tV T n (aM T n (tE T n p)).2) X.bn (sWh (tL T n (tE T n p)) X.bn)).map sBo.nm ++ X.rd.map Prod.fst := hl
            rw [sNm_s] at hl'
            exact b3 l hl'
      · rw [sI_n q3] at e
        exact absurd e q3
  · rw [sI_n q1] at e
    exact absurd e q1
theorem sOK_wolf (h : sOK n p i X) (hw : 0 ≤ tW T n p) (e : (sdWolf T n X p).1 = 0) : p < (sdWolf T n X p).2.1 ∧ sOK n (sdWolf T n X p).2.1 (i + 1) (sdWolf T n X p).2.2 := by
  have hp : p ≤ n := h.1.2.2.2.2.2.2.2.2
  have te := tE_s (T := T) (n := n) (p := p) hp (tW_0 hw)
  unfold sdWolf at e ⊢
  have nb1 := aN_b (T := T) (lo := 0) (hi := X.la) te.2
  by_cases q1 : (aN T n (tE T n p) 0 X.la).1 = 0
  · rw [sI_0 q1] at e ⊢
    obtain ⟨y1, y2, y3, y4, y5, y6, y7⟩ := nb1.1 q1
    have nb := aN_b (T := T) (lo := 0) (hi := 7) y7
    by_cases q3 : (aN T n (aN T n (tE T n p) 0 X.la).2 0 7).1 = 0
    · rw [sI_0 q3] at e ⊢
      obtain ⟨z1, z2, z3, z4, z5, z6, z7⟩ := nb.1 q3
      by_cases q6 : X.wf (tV T n (tE T n p)) / 2 ^ tV T n (aN T n (tE T n p) 0 X.la).2 % 2 = 1
      · rw [if_pos q6] at e
        exact absurd e (by show ¬ ((2 : Nat) = 0); decide)
      · rw [if_neg q6]
        obtain ⟨⟨a1, a2, a3, a4, a5, a6, a7, a8, a9⟩, b1, b2, b3, b4, b5⟩ := h
        refine ⟨by show p < (aN T n (aN T n (tE T n p) 0 X.la).2 0 7).2; omega, ⟨a1, a2, a3, a4, by show X.nw + 1 ≤ i + 1; omega, a6, a7, by show X.sz + 4 ≤ (aN T n (aN T n (tE T n p) 0 X.la).2 0 7).2; omega, z7⟩, b1, b2, b3, fun m => ?_, b5⟩
        show (if m = tV T n (tE T n p) then X.wf m + 2 ^ tV T n (aN T n (tE T n p) 0 X.la).2 else X.wf m) < 256
        by_cases z : m = tV T n (tE T n p)
        · rw [if_pos z]
          subst z
          have : X.wf (tV T n (tE T n p)) / 2 ^ tV T n (aN T n (tE T n p) 0 X.la).2 % 2 < 2 := Nat.mod_lt _ (by decide)
          exact (wo_b (b4 _) (by omega) (by omega)).1
        · rw [if_neg z]; exact b4 m
    · rw [sI_n q3] at e
      exact absurd e q3
  · rw [sI_n q1] at e
    exact absurd e q1
theorem sOK_form {f : Nat} (hf : f < 3) (h : sOK n p i X) (hw : 0 ≤ tW T n p) (e : (sdForm T n f X p).1 = 0) : p < (sdForm T n f X p).2.1 ∧ sOK n (sdForm T n f X p).2.1 i (sdForm T n f X p).2.2 := by
  have hp : p ≤ n := h.1.2.2.2.2.2.2.2.2
  have te := tE_s (T := T) (n := n) (p := p) hp (tW_0 hw)
  unfold sdForm at e ⊢
  by_cases q : (X.fo f).isSome = true
  · rw [if_pos q] at e
    exact absurd e (by show ¬ ((5 : Nat) = 0); decide)
  · rw [if_neg q] at e ⊢
    obtain ⟨md, hmd⟩ : ∃ md, md = if f = 2 then 8 else 3 := ⟨_, rfl⟩
    have md2 : (md = 8 ∧ f = 2) ∨ (md = 3 ∧ f ≠ 2) := by
      by_cases z : f = 2
      · exact Or.inl ⟨by rw [hmd, if_pos z], z⟩
      · exact Or.inr ⟨by rw [hmd, if_neg z], z⟩
    rw [← hmd] at e ⊢
    have nR : mdR md = false := by rcases md2 with ⟨rfl, -⟩ | ⟨rfl, -⟩ <;> rfl
    have ok := pG_ok (T := T) (n := n) (so := f) (sdF n) md 0 (tE T n p) (by omega) (by omega) te.2 (by rw [nR]; show 10 * (n - tE T n p) + md + 1 ≤ 10 * n + 20; omega)
    unfold pOK at ok
    rw [nR] at ok
    obtain ⟨k1, k2, k3⟩ := ok
    by_cases q0 : (pG T n f (sdF n) md 0 (tE T n p)).1 = 0
    · rw [if_pos q0] at e ⊢
      obtain ⟨c1, c2, c3, c4, c5⟩ := k2 q0
      obtain ⟨⟨a1, a2, a3, a4, a5, a6, a7, a8, a9⟩, b1, b2, b3, b4, b5⟩ := h
      have c1' : tE T n p + 1 ≤ (pG T n f (sdF n) md 0 (tE T n p)).2.1 := c1
      have fo : tokOK [] (pG T n f (sdF n) md 0 (tE T n p)).2.2 = some [mdT md] := c5 [] (by rcases md2 with ⟨rfl, -⟩ | ⟨rfl, -⟩ <;> decide)
      have ln : 1 ≤ (pG T n f (sdF n) md 0 (tE T n p)).2.2.length := by
        cases hl : (pG T n f (sdF n) md 0 (tE T n p)).2.2 with
        | nil => rw [hl] at fo; simp [tokOK] at fo
        | cons _ _ => rw [List.length_cons]; omega
      have f3 : (f == 3) = false := by
        have : f = 0 ∨ f = 1 ∨ f = 2 := by omega
        rcases this with rfl | rfl | rfl <;> rfl
      rw [f3] at c4
      refine ⟨by show p < (pG T n f (sdF n) md 0 (tE T n p)).2.1; omega, ⟨a1, a2, a3, a4, a5, a6, a7, by show X.sz + (pG T n f (sdF n) md 0 (tE T n p)).2.2.length + 4 ≤ (pG T n f (sdF n) md 0 (tE T n p)).2.1; omega, c2⟩, b1, b2, b3, b4, fun g a l hg => ?_⟩
      have hg' : (if g = f then some (X.sz, (pG T n f (sdF n) md 0 (tE T n p)).2.2) else X.fo g) = some (a, l) := hg
      show a + l.length ≤ X.sz + (pG T n f (sdF n) md 0 (tE T n p)).2.2.length ∧ 1 ≤ l.length ∧ frT false (g == 2) l
      by_cases z : g = f
      · rw [if_pos z] at hg'
        have q2 := Option.some.inj hg'
        injection q2 with q3 q4
        subst q3; subst q4; subst z
        exact ⟨Nat.le_refl _, ln, ⟨_, fo⟩, c4⟩
      · rw [if_neg z] at hg'
        obtain ⟨d1, d2, d3⟩ := b5 g a l hg'
        exact ⟨by omega, d2, d3⟩
    · rw [if_neg q0] at e
      exact absurd e q0
theorem sOK_wind (h : sOK n p i X) (hw : 0 ≤ tW T n p) (e : (sdWind T n X p).1 = 0) : p < (sdWind T n X p).2.1 ∧ sOK n (sdWind T n X p).2.1 i (sdWind T n X p).2.2 := by
  have hp : p ≤ n := h.1.2.2.2.2.2.2.2.2
  have te := tE_s (T := T) (n := n) (p := p) hp (tW_0 hw)
  unfold sdWind at e ⊢
  have nb1 := aN_b (T := T) (lo := 0) (hi := 9) te.2
  by_cases q1 : (aN T n (tE T n p) 0 9).1 = 0
  · rw [sI_0 q1]
    obtain ⟨y1, y2, y3, y4, y5, y6, y7⟩ := nb1.1 q1
    obtain ⟨⟨a1, a2, a3, a4, a5, a6, a7, a8, a9⟩, b⟩ := h
    exact ⟨by show p < (aN T n (tE T n p) 0 9).2; omega, ⟨a1, a2, y4, a4, a5, a6, a7, by show X.sz + 4 ≤ (aN T n (tE T n p) 0 9).2; omega, y7⟩, b⟩
  · rw [sI_n q1] at e
    exact absurd e q1
theorem sOK_squ (h : sOK n p i X) (hw : 0 ≤ tW T n p) (e : (sdSqu T n X p).1 = 0) : p < (sdSqu T n X p).2.1 ∧ sOK n (sdSqu T n X p).2.1 i (sdSqu T n X p).2.2 := by
  have hp : p ≤ n := h.1.2.2.2.2.2.2.2.2
  have te := tE_s (T := T) (n := n) (p := p) hp (tW_0 hw)
  unfold sdSqu at e ⊢
  have nb1 := aN_b (T := T) (lo := 0) (hi := 100) te.2
  by_cases q1 : (aN T n (tE T n p) 0 100).1 = 0
  · rw [sI_0 q1]
    obtain ⟨y1, y2, y3, y4, y5, y6, y7⟩ := nb1.1 q1
    obtain ⟨⟨a1, a2, a3, a4, a5, a6, a7, a8, a9⟩, b⟩ := h
    exact ⟨by show p < (aN T n (tE T n p) 0 100).2; omega, ⟨a1, a2, a3, y4, a5, a6, a7, by show X.sz + 4 ≤ (aN T n (tE T n p) 0 100).2; omega, y7⟩, b⟩
  · rw [sI_n q1] at e
    exact absurd e q1
theorem sOK_st (h : sOK n p i X) (e : (sdSt T n X p).1 = 0) : p < (sdSt T n X p).2.1 ∧ sOK n (sdSt T n X p).2.1 (i + 1) (sdSt T n X p).2.2 := by
  have up : ∀ {r : sRs}, (p < r.2.1 ∧ sOK n r.2.1 i r.2.2) → p < r.2.1 ∧ sOK n r.2.1 (i + 1) r.2.2 := fun h => ⟨h.1, sOK_i h.2 (by omega)⟩
  unfold sdSt at e ⊢
  by_cases w1 : tW T n p = 1
  · rw [if_pos w1] at e ⊢; exact up (sOK_boat h (by omega) e)
  rw [if_neg w1] at e ⊢
  by_cases w5 : tW T n p = 5
  · rw [if_pos w5] at e ⊢; exact up (sOK_score h (by omega) e)
  rw [if_neg w5] at e ⊢
  by_cases w6 : tW T n p = 6
  · rw [if_pos w6] at e ⊢; exact sOK_wolf h (by omega) e
  rw [if_neg w6] at e ⊢
  by_cases w7 : tW T n p = 7
  · rw [if_pos w7] at e ⊢; exact up (sOK_rider h (by omega) e)
  rw [if_neg w7] at e ⊢
  by_cases w9 : tW T n p = 9
  · rw [if_pos w9] at e ⊢; exact up (sOK_form (by decide) h (by omega) e)
  rw [if_neg w9] at e ⊢
  by_cases w10 : tW T n p = 10
  · rw [if_pos w10] at e ⊢; exact up (sOK_form (by decide) h (by omega) e)
  rw [if_neg w10] at e ⊢
  by_cases w11 : tW T n p = 11
  · rw [if_pos w11] at e ⊢; exact up (sOK_form (by decide) h (by omega) e)
  rw [if_neg w11] at e ⊢
  by_cases w12 : tW T n p = 12
  · rw [if_pos w12] at e ⊢; exact up (sOK_wind h (by omega) e)
  rw [if_neg w12] at e ⊢
  by_cases w13 : tW T n p = 13
  · rw [if_pos w13] at e ⊢; exact up (sOK_squ h (by omega) e)
  rw [if_neg w13] at e
  exact absurd e (by show ¬ ((1 : Nat) = 0); decide)
end SOK2
