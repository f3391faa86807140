/-! ===== products, sums, tests ===== -/
section XMD2
variable {J : tJ} {R : tR} {T : Nat → Nat} {n so f : Nat}
theorem x_m1 (hx : st_Rx R) (ih : xGs J R T n so f) {o p e sz ac : Nat} {I : tI} (ho : o ≤ 6) (hp : p ≤ n) (hf : 10 * (n - p) + 1 + 1 ≤ f + 1) (he : 10 * (6 - o) + 10 ≤ e) (hT : txX T n I R) (hs : scX T n p I) (hF : fS so o sz ac I) (hsz : sz ≤ p) (hac : ac ≤ 1) : ∃ I', am_E e 25 0 [(0, .ref 8)] [] (I, J, R, 138) = some (none, (I', J, R, 138)) ∧ xP T n o sz ac (pG T n so (f + 1) 1 o p) I I' := by
  obtain ⟨d, rfl⟩ : ∃ d, e = d + 9 := ⟨e - 9, by omega⟩
  show ∃ I', _ ∧ xP T n o sz ac (pB (pG T n so f 0 o p) (fun p1 => pG T n so f 2 o p1)) I I'
  have n1 := hT.1
  obtain ⟨I1, a1, a2⟩ := ih 0 o p (d + 8) sz ac 0 I (by omega) ho hp (by show 10 * (n - p) + 0 + 1 ≤ f; omega) (by show 10 * (6 - o) + 9 ≤ d + 8; omega) hT hs hF hsz hac (by omega)
  have a1' : am_E (d + 8) 26 0 [(0, .ref 8)] [] (I, J, R, 138) = some (none, (I1, J, R, 138)) := a1
  have ge := pG_e (T := T) (so := so) (f := f) (md := 0) (o := o) (p := p) (by omega) ho hp (by show 10 * (n - p) + 0 + 1 ≤ f; omega)
  by_cases q : (pG T n so f 0 o p).1 = 0
  · obtain ⟨g1, g2, g3⟩ := ge.2 q
    have g1' : p + 1 ≤ (pG T n so f 0 o p).2.1 := g1
    obtain ⟨c1, -⟩ := a2.1 q
    obtain ⟨I2, b1, b2⟩ := ih 2 o (pG T n so f 0 o p).2.1 (d + 9) (sz + (pG T n so f 0 o p).2.2.length) (acS ac (pG T n so f 0 o p).2.2) 0 I1 (by omega) ho g2 (by show 10 * (n - (pG T n so f 0 o p).2.1) + 0 + 1 ≤ f; omega) (by show 10 * (6 - o) + 10 ≤ d + 9; omega) (txX_f hT a2.2.2) c1 (xP_f hF a2 q) (by omega) acS_b (by omega)
    have b1' : am_E (d + 9) 25 6 [(0, .ref 8), (1, .int (am_i 0))] [] (I1, J, R, 138) = some (none, (I2, J, R, 138)) := b1
    refine ⟨I2, ?_, xP_t q a2 b2⟩
    rw [sg_X3_product_0]
    simp (disch := first | assumption | omega) only [rX hx, ly_csx, ly_cax, ly_cf, ly_kd, ly_ln, ↓Bool.cond_decide, cond_true, cond_false, ↓bI_p, ↓bV_p, ↓bL_p, bIJ_s, bVJ_s, bLJ_s, ↓am_let_s, Nat.blt, Nat.ble, Bool.and_true, Bool.true_and, Bool.and_self, Int.cast_ofNat_Int, a1', b1']
  · have ft := a2.2.1 q
    have ff := x_p6F (d := d + 7) (J := J) (R := R) hx ft.1 (i := 0) (by omega)
    have f1 : am_E (d + 9) 25 6 [(0, .ref 8), (1, .int (am_i 0))] [] (I1, J, R, 138) = some (none, (I1, J, R, 138)) := ff.1
    refine ⟨I1, ?_, xP_n q ft a2.2.2⟩
    rw [sg_X3_product_0]
    simp (disch := first | assumption | omega) only [rX hx, ly_csx, ly_cax, ly_cf, ly_kd, ly_ln, ↓Bool.cond_decide, cond_true, cond_false, ↓bI_p, ↓bV_p, ↓bL_p, bIJ_s, bVJ_s, bLJ_s, ↓am_let_s, Nat.blt, Nat.ble, Bool.and_true, Bool.true_and, Bool.and_self, Int.cast_ofNat_Int, a1', f1]
theorem x_m3 (hx : st_Rx R) (ih : xGs J R T n so f) {o p e sz ac : Nat} {I : tI} (ho : o ≤ 6) (hp : p ≤ n) (hf : 10 * (n - p) + 3 + 1 ≤ f + 1) (he : 10 * (6 - o) + 11 ≤ e) (hT : txX T n I R) (hs : scX T n p I) (hF : fS so o sz ac I) (hsz : sz ≤ p) (hac : ac ≤ 1) : ∃ I', am_E e 24 0 [(0, .ref 8)] [] (I, J, R, 138) = some (none, (I', J, R, 138)) ∧ xP T n o sz ac (pG T n so (f + 1) 3 o p) I I' := by
  obtain ⟨d, rfl⟩ : ∃ d, e = d + 9 := ⟨e - 9, by omega⟩
  show ∃ I', _ ∧ xP T n o sz ac (pB (pG T n so f 1 o p) (fun p1 => pG T n so f 4 o p1)) I I'
  have n1 := hT.1
  obtain ⟨I1, a1, a2⟩ := ih 1 o p (d + 8) sz ac 0 I (by omega) ho hp (by show 10 * (n - p) + 1 + 1 ≤ f; omega) (by show 10 * (6 - o) + 10 ≤ d + 8; omega) hT hs hF hsz hac (by omega)
  have a1' : am_E (d + 8) 25 0 [(0, .ref 8)] [] (I, J, R, 138) = some (none, (I1, J, R, 138)) := a1
  have ge := pG_e (T := T) (so := so) (f := f) (md := 1) (o := o) (p := p) (by omega) ho hp (by show 10 * (n - p) + 1 + 1 ≤ f; omega)
  by_cases q : (pG T n so f 1 o p).1 = 0
  · obtain ⟨g1, g2, g3⟩ := ge.2 q
    have g1' : p + 1 ≤ (pG T n so f 1 o p).2.1 := g1
    obtain ⟨c1, -⟩ := a2.1 q
    obtain ⟨I2, b1, b2⟩ := ih 4 o (pG T n so f 1 o p).2.1 (d + 9) (sz + (pG T n so f 1 o p).2.2.length) (acS ac (pG T n so f 1 o p).2.2) 0 I1 (by omega) ho g2 (by show 10 * (n - (pG T n so f 1 o p).2.1) + 0 + 1 ≤ f; omega) (by show 10 * (6 - o) + 11 ≤ d + 9; omega) (txX_f hT a2.2.2) c1 (xP_f hF a2 q) (by omega) acS_b (by omega)
    have b1' : am_E (d + 9) 24 6 [(0, .ref 8), (1, .int (am_i 0))] [] (I1, J, R, 138) = some (none, (I2, J, R, 138)) := b1
    refine ⟨I2, ?_, xP_t q a2 b2⟩
    rw [sg_X3_sum_0]
    simp (disch := first | assumption | omega) only [rX hx, ly_csx, ly_cax, ly_cf, ly_kd, ly_ln, ↓Bool.cond_decide, cond_true, cond_false, ↓bI_p, ↓bV_p, ↓bL_p, bIJ_s, bVJ_s, bLJ_s, ↓am_let_s, Nat.blt, Nat.ble, Bool.and_true, Bool.true_and, Bool.and_self, Int.cast_ofNat_Int, a1', b1']
  · have ft := a2.2.1 q
    have ff := x_p6F (d := d + 7) (J := J) (R := R) hx ft.1 (i := 0) (by omega)
    have f1 : am_E (d + 9) 24 6 [(0, .ref 8), (1, .int (am_i 0))] [] (I1, J, R, 138) = some (none, (I1, J, R, 138)) := ff.2.1
    refine ⟨I1, ?_, xP_n q ft a2.2.2⟩
    rw [sg_X3_sum_0]
    simp (disch := first | assumption | omega) only [rX hx, ly_csx, ly_cax, ly_cf, ly_kd, ly_ln, ↓Bool.cond_decide, cond_true, cond_false, ↓bI_p, ↓bV_p, ↓bL_p, bIJ_s, bVJ_s, bLJ_s, ↓am_let_s, Nat.blt, Nat.ble, Bool.and_true, Bool.true_and, Bool.and_self, Int.cast_ofNat_Int, a1', f1]
theorem x_m6 (hx : st_Rx R) (ih : xGs J R T n so f) {o p e sz ac : Nat} {I : tI} (ho : o ≤ 6) (hp : p ≤ n) (hf : 10 * (n - p) + 6 + 1 ≤ f + 1) (he : 10 * (6 - o) + 14 ≤ e) (hT : txX T n I R) (hs : scX T n p I) (hF : fS so o sz ac I) (hsz : sz ≤ p) (hac : ac ≤ 1) : ∃ I', am_E e 21 0 [(0, .ref 8)] [] (I, J, R, 138) = some (none, (I', J, R, 138)) ∧ xP T n o sz ac (pG T n so (f + 1) 6 o p) I I' := by
  obtain ⟨d, rfl⟩ : ∃ d, e = d + 9 := ⟨e - 9, by omega⟩
  show ∃ I', _ ∧ xP T n o sz ac (pB (pG T n so f 5 o p) (fun p1 => pG T n so f 7 o p1)) I I'
  have n1 := hT.1
  obtain ⟨I1, a1, a2⟩ := ih 5 o p (d + 8) sz ac 0 I (by omega) ho hp (by show 10 * (n - p) + 5 + 1 ≤ f; omega) (by show 10 * (6 - o) + 13 ≤ d + 8; omega) hT hs hF hsz hac (by omega)
  have a1' : am_E (d + 8) 22 0 [(0, .ref 8)] [] (I, J, R, 138) = some (none, (I1, J, R, 138)) := a1
  have ge := pG_e (T := T) (so := so) (f := f) (md := 5) (o := o) (p := p) (by omega) ho hp (by show 10 * (n - p) + 5 + 1 ≤ f; omega)
  by_cases q : (pG T n so f 5 o p).1 = 0
  · obtain ⟨g1, g2, g3⟩ := ge.2 q
    have g1' : p + 1 ≤ (pG T n so f 5 o p).2.1 := g1
    obtain ⟨c1, -⟩ := a2.1 q
    obtain ⟨I2, b1, b2⟩ := ih 7 o (pG T n so f 5 o p).2.1 (d + 9) (sz + (pG T n so f 5 o p).2.2.length) (acS ac (pG T n so f 5 o p).2.2) 0 I1 (by omega) ho g2 (by show 10 * (n - (pG T n so f 5 o p).2.1) + 0 + 1 ≤ f; omega) (by show 10 * (6 - o) + 14 ≤ d + 9; omega) (txX_f hT a2.2.2) c1 (xP_f hF a2 q) (by omega) acS_b (by omega)
    have b1' : am_E (d + 9) 21 6 [(0, .ref 8), (1, .int (am_i 0))] [] (I1, J, R, 138) = some (none, (I2, J, R, 138)) := b1
    refine ⟨I2, ?_, xP_t q a2 b2⟩
    rw [sg_X3_both_0]
    simp (disch := first | assumption | omega) only [rX hx, ly_csx, ly_cax, ly_cf, ly_kd, ly_ln, ↓Bool.cond_decide, cond_true, cond_false, ↓bI_p, ↓bV_p, ↓bL_p, bIJ_s, bVJ_s, bLJ_s, ↓am_let_s, Nat.blt, Nat.ble, Bool.and_true, Bool.true_and, Bool.and_self, Int.cast_ofNat_Int, a1', b1']
  · have ft := a2.2.1 q
    have ff := x_p6F (d := d + 7) (J := J) (R := R) hx ft.1 (i := 0) (by omega)
    have f1 : am_E (d + 9) 21 6 [(0, .ref 8), (1, .int (am_i 0))] [] (I1, J, R, 138) = some (none, (I1, J, R, 138)) := ff.2.2.1
    refine ⟨I1, ?_, xP_n q ft a2.2.2⟩
    rw [sg_X3_both_0]
    simp (disch := first | assumption | omega) only [rX hx, ly_csx, ly_cax, ly_cf, ly_kd, ly_ln, ↓Bool.cond_decide, cond_true, cond_false, ↓bI_p, ↓bV_p, ↓bL_p, bIJ_s, bVJ_s, bLJ_s, ↓am_let_s, Nat.blt, Nat.ble, Bool.and_true, Bool.true_and, Bool.and_self, Int.cast_ofNat_Int, a1', f1]
theorem x_m8 (hx : st_Rx R) (ih : xGs J R T n so f) {o p e sz ac : Nat} {I : tI} (ho : o ≤ 6) (hp : p ≤ n) (hf : 10 * (n - p) + 8 + 1 ≤ f + 1) (he : 10 * (6 - o) + 15 ≤ e) (hT : txX T n I R) (hs : scX T n p I) (hF : fS so o sz ac I) (hsz : sz ≤ p) (hac : ac ≤ 1) : ∃ I', am_E e 20 0 [(0, .ref 8)] [] (I, J, R, 138) = some (none, (I', J, R, 138)) ∧ xP T n o sz ac (pG T n so (f + 1) 8 o p) I I' := by
  obtain ⟨d, rfl⟩ : ∃ d, e = d + 9 := ⟨e - 9, by omega⟩
  show ∃ I', _ ∧ xP T n o sz ac (pB (pG T n so f 6 o p) (fun p1 => pG T n so f 9 o p1)) I I'
  have n1 := hT.1
  obtain ⟨I1, a1, a2⟩ := ih 6 o p (d + 8) sz ac 0 I (by omega) ho hp (by show 10 * (n - p) + 6 + 1 ≤ f; omega) (by show 10 * (6 - o) + 14 ≤ d + 8; omega) hT hs hF hsz hac (by omega)
  have a1' : am_E (d + 8) 21 0 [(0, .ref 8)] [] (I, J, R, 138) = some (none, (I1, J, R, 138)) := a1
  have ge := pG_e (T := T) (so := so) (f := f) (md := 6) (o := o) (p := p) (by omega) ho hp (by show 10 * (n - p) + 6 + 1 ≤ f; omega)
  by_cases q : (pG T n so f 6 o p).1 = 0
  · obtain ⟨g1, g2, g3⟩ := ge.2 q
    have g1' : p + 1 ≤ (pG T n so f 6 o p).2.1 := g1
    obtain ⟨c1, -⟩ := a2.1 q
    obtain ⟨I2, b1, b2⟩ := ih 9 o (pG T n so f 6 o p).2.1 (d + 9) (sz + (pG T n so f 6 o p).2.2.length) (acS ac (pG T n so f 6 o p).2.2) 0 I1 (by omega) ho g2 (by show 10 * (n - (pG T n so f 6 o p).2.1) + 0 + 1 ≤ f; omega) (by show 10 * (6 - o) + 15 ≤ d + 9; omega) (txX_f hT a2.2.2) c1 (xP_f hF a2 q) (by omega) acS_b (by omega)
    have b1' : am_E (d + 9) 20 6 [(0, .ref 8), (1, .int (am_i 0))] [] (I1, J, R, 138) = some (none, (I2, J, R, 138)) := b1
    refine ⟨I2, ?_, xP_t q a2 b2⟩
    rw [sg_X3_test_0]
    simp (disch := first | assumption | omega) only [rX hx, ly_csx, ly_cax, ly_cf, ly_kd, ly_ln, ↓Bool.cond_decide, cond_true, cond_false, ↓bI_p, ↓bV_p, ↓bL_p, bIJ_s, bVJ_s, bLJ_s, ↓am_let_s, Nat.blt, Nat.ble, Bool.and_true, Bool.true_and, Bool.and_self, Int.cast_ofNat_Int, a1', b1']
  · have ft := a2.2.1 q
    have ff := x_p6F (d := d + 7) (J := J) (R := R) hx ft.1 (i := 0) (by omega)
    have f1 : am_E (d + 9) 20 6 [(0, .ref 8), (1, .int (am_i 0))] [] (I1, J, R, 138) = some (none, (I1, J, R, 138)) := ff.2.2.2
    refine ⟨I1, ?_, xP_n q ft a2.2.2⟩
    rw [sg_X3_test_0]
    simp (disch := first | assumption | omega) only [rX hx, ly_csx, ly_cax, ly_cf, ly_kd, ly_ln, ↓Bool.cond_decide, cond_true, cond_false, ↓bI_p, ↓bV_p, ↓bL_p, bIJ_s, bVJ_s, bLJ_s, ↓am_let_s, Nat.blt, Nat.ble, Bool.and_true, Bool.true_and, Bool.and_self, Int.cast_ofNat_Int, a1', f1]
theorem x_m2 (hx : st_Rx R) (ih : xGs J R T n so f) {o p e sz ac i : Nat} {I : tI} (ho : o ≤ 6) (hp : p ≤ n) (hf : 10 * (n - p) + 0 + 1 ≤ f + 1) (he : 10 * (6 - o) + 10 ≤ e) (hT : txX T n I R) (hs : scX T n p I) (hF : fS so o sz ac I) (hsz : sz ≤ p) (hac : ac ≤ 1) (hi : i ≤ p) : ∃ I', am_E e 25 6 [(0, .ref 8), (1, .int (am_i i))] [] (I, J, R, 138) = some (none, (I', J, R, 138)) ∧ xP T n o sz ac (pG T n so (f + 1) 2 o p) I I' := by
  obtain ⟨d, rfl⟩ : ∃ d, e = d + 9 := ⟨e - 9, by omega⟩
  show ∃ I', _ ∧ xP T n o sz ac (if tSg T n p = 42 ∨ tSg T n p = 47 then pB (pG T n so f 0 o (tE T n p)) (fun p1 => pB (pT p1 [(3, (tSg T n p).toNat)]) (fun p2 => pG T n so f 2 o p2)) else pT p []) I I'
  have n1 := hT.1
  have vp := vw_p hT hs
  have sh := fun d => e_signHere (d := d) (J := J) (R := R) vp
  have s1 : ∀ d, am_E (d + 1) 81 0 [(0, .ref 5), (1, .int (am_i 42))] [] (I, J, R, 138) = _ := fun d => e_isSign (d := d) (J := J) (R := R) vp (c := 42) (by omega)
  have s2 : ∀ d, am_E (d + 1) 81 0 [(0, .ref 5), (1, .int (am_i 47))] [] (I, J, R, 138) = _ := fun d => e_isSign (d := d) (J := J) (R := R) vp (c := 47) (by omega)
  by_cases q : tSg T n p = 42 ∨ tSg T n p = 47
  · rw [if_pos q]
    have es := tE_s hp (tSg_0 (T := T) (n := n) (p := p) (by omega))
    obtain ⟨c, hc⟩ : ∃ c : Nat, tSg T n p = c := ⟨(tSg T n p).toNat, by omega⟩
    obtain ⟨I1, a1, a2, a3, a4⟩ := x_go (d := d + 4) (J := J) hx hT hp hs (tSg_4 (T := T) (n := n) (p := p) (by omega))
    have hf1 : 10 * (n - tE T n p) + 0 + 1 ≤ f := by omega
    have hF1 : fS so o sz ac I1 := ⟨by rw [a4 _ _ (by omega)]; exact hF.1, by rw [a4 _ _ (by omega)]; exact hF.2.1, by rw [a4 _ _ (by omega)]; exact hF.2.2.1, by rw [a4 _ _ (by omega)]; exact hF.2.2.2⟩
    obtain ⟨I2, b1, b2⟩ := ih 0 o (tE T n p) (d + 8) sz ac 0 I1 (by omega) ho es.2 hf1 (by show 10 * (6 - o) + 9 ≤ d + 8; omega) (txX_f hT (frF_5 a4)) a2 hF1 (by omega) hac (by omega)
    have ge := pG_e (T := T) (so := so) (f := f) (md := 0) (o := o) (p := tE T n p) (by omega) ho es.2 hf1
    obtain ⟨I3, z1, z2, -⟩ := xP_E (J := J) hx hac (t := (3, c)) (by intro e; cases e) (fun q => by have := ge.2 q; omega) b2
    obtain ⟨I4, y1, y2⟩ := x_rest (e := d + 9) (i := i) (md := 2) (m2 := 0) hx ih (Or.inl ⟨rfl, rfl⟩) ho hp n1 hf (by show 10 * (6 - o) + 10 ≤ d + 9; omega) hT hF hsz hac hi es.1 es.2 a3 a4 b2 z2
    have a1' : am_E (d + 8) 73 0 [(0, .ref 5)] [] (I, J, R, 138) = some (none, (I1, J, R, 138)) := a1
    have b1' : am_E (d + 8) 26 0 [(0, .ref 8)] [] (I1, J, R, 138) = some (none, (I2, J, R, 138)) := b1
    have z1' : ∀ d, am_E (d + 1) 18 0 [(0, .ref 8), (1, .int (am_i ((30000 : Int) + (c : Int))))] [] (I2, J, R, 138) = some (none, (I3, J, R, 138)) := z1
    have y1' : am_E (d + 9) 25 6 [(0, .ref 8), (1, .int (am_i (i + 1 : Nat)))] [] (I3, J, R, 138) = some (none, (I4, J, R, 138)) := y1
    have ew : am_i 30000 + am_i (c : Int) = am_i ((30000 : Int) + (c : Int)) := am_i_add _ _
    have f37 : am_E (d + 9) 25 37 [(0, .ref 8), (1, .int (am_i i))] [] (I, J, R, 138) = some (none, (I4, J, R, 138)) := by
      rw [hc] at sh
      rw [sg_X3_product_37]
      simp (disch := first | assumption | omega) only [rX hx, ly_csx, ly_cax, ly_cf, ly_kd, ly_ln, ↓Bool.cond_decide, cond_true, cond_false, ↓bI_p, ↓bV_p, ↓bL_p, bIJ_s, bVJ_s, bLJ_s, ↓am_let_s, Nat.blt, Nat.ble, Bool.and_true, Bool.true_and, Bool.and_self, Int.cast_ofNat_Int, sh, a1', b1', ew, z1', am_i_add, am_i_s, y1']
    refine ⟨I4, ?_, ?_⟩
    · rw [sg_X3_product_6]
      have i16 : (am_i 1600 ≤ am_i (i : Int)) = False := eq_false (fun h => absurd ((am_i_le (by omega) (by omega) (by omega) (by omega)).mp h) (by omega))
      by_cases q1 : tSg T n p = 42
      · have q1' : tSg T n p = ((42 : Nat) : Int) := q1
        simp (disch := first | assumption | omega) only [rX hx, ly_csx, ly_cax, ly_cf, ly_kd, ly_ln, ↓Bool.cond_decide, cond_true, cond_false, ↓bI_p, ↓bV_p, ↓bL_p, bIJ_s, bVJ_s, bLJ_s, ↓am_let_s, Nat.blt, Nat.ble, Bool.and_true, Bool.true_and, Bool.and_self, Int.cast_ofNat_Int, i16, s1, b01_t q1', b01_t q1, am0z, am1z, f37, ne_eq, not_true_eq_false, not_false_eq_true, ↓reduceIte]
      · have q2 : tSg T n p = 47 := by rcases q with q | q; exact absurd q q1; exact q
        have q1' : ¬ tSg T n p = ((42 : Nat) : Int) := q1
        have q2' : tSg T n p = ((47 : Nat) : Int) := q2
        simp (disch := first | assumption | omega) only [rX hx, ly_csx, ly_cax, ly_cf, ly_kd, ly_ln, ↓Bool.cond_decide, cond_true, cond_false, ↓bI_p, ↓bV_p, ↓bL_p, bIJ_s, bVJ_s, bLJ_s, ↓am_let_s, Nat.blt, Nat.ble, Bool.and_true, Bool.true_and, Bool.and_self, Int.cast_ofNat_Int, i16, s1, s2, b01_f q1', b01_f q1, b01_t q2', b01_t q2, am0z, am1z, f37, ne_eq, not_true_eq_false, not_false_eq_true, ↓reduceIte]
    · rw [hc, Int.toNat_natCast]
      exact y2
  · rw [if_neg q]
    have q1 : ¬ tSg T n p = ((42 : Nat) : Int) := fun e => q (Or.inl e)
    have q2 : ¬ tSg T n p = ((47 : Nat) : Int) := fun e => q (Or.inr e)
    refine ⟨I, ?_, ⟨fun _ => ⟨hs, rfl, hF.1, by rw [hF.2.1]; exact congrArg (fun x : Nat => am_i (x : Int)) (acS_0 hac List.not_mem_nil).symm, hF.2.2.1, fun k t ht => by simp [pT] at ht, fun k hk => rfl⟩, fun e => absurd rfl e, frF_r I⟩⟩
    rw [sg_X3_product_6]
    by_cases q16 : i < 1600
    · simp (disch := first | assumption | omega) only [rX hx, ly_csx, ly_cax, ly_cf, ly_kd, ly_ln, ↓Bool.cond_decide, cond_true, cond_false, ↓bI_p, ↓bV_p, ↓bL_p, bIJ_s, bVJ_s, bLJ_s, ↓am_let_s, Nat.blt, Nat.ble, Bool.and_true, Bool.true_and, Bool.and_self, Int.cast_ofNat_Int, am_i_add, am_i_sub, am_i_mul, am_ok_i, am_i_cl, n_lt, n_le, n_eq, n_lt0, n_le0, n_0lt, n_0le, n_eq0, ne_eq, ↓reduceIte, not_true_eq_false, not_false_eq_true, and_true, true_and, and_false, false_and, eq_T, eq_F, lt_T, lt_F, le_T, le_F, qn_T, qn_F, and_F, b01_T, b01_F, e_isIn, Int32.toInt_toInt64, am_i_toInt, am_l_toInt, Int.toNat_natCast, Int.reduceToNat, Int.reduceAdd, Int.reduceSub, Int.reduceMul, Int.reduceNeg, Nat.reduceAdd, Nat.reduceMul, Nat.add_zero, Nat.mul_zero, Nat.zero_add, am_zb0, am_zb1, s1, s2, b01_f q1, b01_f q2, sg_X3_product_71]
    · simp (disch := first | assumption | omega) only [rX hx, ly_csx, ly_cax, ly_cf, ly_kd, ly_ln, ↓Bool.cond_decide, cond_true, cond_false, ↓bI_p, ↓bV_p, ↓bL_p, bIJ_s, bVJ_s, bLJ_s, ↓am_let_s, Nat.blt, Nat.ble, Bool.and_true, Bool.true_and, Bool.and_self, Int.cast_ofNat_Int, am_i_add, am_i_sub, am_i_mul, am_ok_i, am_i_cl, n_lt, n_le, n_eq, n_lt0, n_le0, n_0lt, n_0le, n_eq0, ne_eq, ↓reduceIte, not_true_eq_false, not_false_eq_true, and_true, true_and, and_false, false_and, eq_T, eq_F, lt_T, lt_F, le_T, le_F, qn_T, qn_F, and_F, b01_T, b01_F, e_isIn, Int32.toInt_toInt64, am_i_toInt, am_l_toInt, Int.toNat_natCast, Int.reduceToNat, Int.reduceAdd, Int.reduceSub, Int.reduceMul, Int.reduceNeg, Nat.reduceAdd, Nat.reduceMul, Nat.add_zero, Nat.mul_zero, Nat.zero_add, am_zb0, am_zb1, sg_X3_product_71]
theorem x_m4 (hx : st_Rx R) (ih : xGs J R T n so f) {o p e sz ac i : Nat} {I : tI} (ho : o ≤ 6) (hp : p ≤ n) (hf : 10 * (n - p) + 0 + 1 ≤ f + 1) (he : 10 * (6 - o) + 11 ≤ e) (hT : txX T n I R) (hs : scX T n p I) (hF : fS so o sz ac I) (hsz : sz ≤ p) (hac : ac ≤ 1) (hi : i ≤ p) : ∃ I', am_E e 24 6 [(0, .ref 8), (1, .int (am_i i))] [] (I, J, R, 138) = some (none, (I', J, R, 138)) ∧ xP T n o sz ac (pG T n so (f + 1) 4 o p) I I' := by
  obtain ⟨d, rfl⟩ : ∃ d, e = d + 9 := ⟨e - 9, by omega⟩
  show ∃ I', _ ∧ xP T n o sz ac (if tSg T n p = 43 ∨ tSg T n p = 45 then pB (pG T n so f 1 o (tE T n p)) (fun p1 => pB (pT p1 [(3, (tSg T n p).toNat)]) (fun p2 => pG T n so f 4 o p2)) else pT p []) I I'
  have n1 := hT.1
  have vp := vw_p hT hs
  have sh := fun d => e_signHere (d := d) (J := J) (R := R) vp
  have s1 : ∀ d, am_E (d + 1) 81 0 [(0, .ref 5), (1, .int (am_i 43))] [] (I, J, R, 138) = _ := fun d => e_isSign (d := d) (J := J) (R := R) vp (c := 43) (by omega)
  have s2 : ∀ d, am_E (d + 1) 81 0 [(0, .ref 5), (1, .int (am_i 45))] [] (I, J, R, 138) = _ := fun d => e_isSign (d := d) (J := J) (R := R) vp (c := 45) (by omega)
  by_cases q : tSg T n p = 43 ∨ tSg T n p = 45
  · rw [if_pos q]
    have es := tE_s hp (tSg_0 (T := T) (n := n) (p := p) (by omega))
    obtain ⟨c, hc⟩ : ∃ c : Nat, tSg T n p = c := ⟨(tSg T n p).toNat, by omega⟩
    obtain ⟨I1, a1, a2, a3, a4⟩ := x_go (d := d + 4) (J := J) hx hT hp hs (tSg_4 (T := T) (n := n) (p := p) (by omega))
    have hf1 : 10 * (n - tE T n p) + 1 + 1 ≤ f := by omega
    have hF1 : fS so o sz ac I1 := ⟨by rw [a4 _ _ (by omega)]; exact hF.1, by rw [a4 _ _ (by omega)]; exact hF.2.1, by rw [a4 _ _ (by omega)]; exact hF.2.2.1, by rw [a4 _ _ (by omega)]; exact hF.2.2.2⟩
    obtain ⟨I2, b1, b2⟩ := ih 1 o (tE T n p) (d + 8) sz ac 0 I1 (by omega) ho es.2 hf1 (by show 10 * (6 - o) + 10 ≤ d + 8; omega) (txX_f hT (frF_5 a4)) a2 hF1 (by omega) hac (by omega)
    have ge := pG_e (T := T) (so := so) (f := f) (md := 1) (o := o) (p := tE T n p) (by omega) ho es.2 hf1
    obtain ⟨I3, z1, z2, -⟩ := xP_E (J := J) hx hac (t := (3, c)) (by intro e; cases e) (fun q => by have := ge.2 q; omega) b2
    obtain ⟨I4, y1, y2⟩ := x_rest (e := d + 9) (i := i) (md := 4) (m2 := 1) hx ih (Or.inr (Or.inl ⟨rfl, rfl⟩)) ho hp n1 hf (by show 10 * (6 - o) + 11 ≤ d + 9; omega) hT hF hsz hac hi es.1 es.2 a3 a4 b2 z2
    have a1' : am_E (d + 8) 73 0 [(0, .ref 5)] [] (I, J, R, 138) = some (none, (I1, J, R, 138)) := a1
    have b1' : am_E (d + 8) 25 0 [(0, .ref 8)] [] (I1, J, R, 138) = some (none, (I2, J, R, 138)) := b1
    have z1' : ∀ d, am_E (d + 1) 18 0 [(0, .ref 8), (1, .int (am_i ((30000 : Int) + (c : Int))))] [] (I2, J, R, 138) = some (none, (I3, J, R, 138)) := z1
    have y1' : am_E (d + 9) 24 6 [(0, .ref 8), (1, .int (am_i (i + 1 : Nat)))] [] (I3, J, R, 138) = some (none, (I4, J, R, 138)) := y1
    have ew : am_i 30000 + am_i (c : Int) = am_i ((30000 : Int) + (c : Int)) := am_i_add _ _
    have f37 : am_E (d + 9) 24 37 [(0, .ref 8), (1, .int (am_i i))] [] (I, J, R, 138) = some (none, (I4, J, R, 138)) := by
      rw [hc] at sh
      rw [sg_X3_sum_37]
      simp (disch := first | assumption | omega) only [rX hx, ly_csx, ly_cax, ly_cf, ly_kd, ly_ln, ↓Bool.cond_decide, cond_true, cond_false, ↓bI_p, ↓bV_p, ↓bL_p, bIJ_s, bVJ_s, bLJ_s, ↓am_let_s, Nat.blt, Nat.ble, Bool.and_true, Bool.true_and, Bool.and_self, Int.cast_ofNat_Int, sh, a1', b1', ew, z1', am_i_add, am_i_s, y1']
    refine ⟨I4, ?_, ?_⟩
    · rw [sg_X3_sum_6]
      have i16 : (am_i 1600 ≤ am_i (i : Int)) = False := eq_false (fun h => absurd ((am_i_le (by omega) (by omega) (by omega) (by omega)).mp h) (by omega))
      by_cases q1 : tSg T n p = 43
      · have q1' : tSg T n p = ((43 : Nat) : Int) := q1
        simp (disch := first | assumption | omega) only [rX hx, ly_csx, ly_cax, ly_cf, ly_kd, ly_ln, ↓Bool.cond_decide, cond_true, cond_false, ↓bI_p, ↓bV_p, ↓bL_p, bIJ_s, bVJ_s, bLJ_s, ↓am_let_s, Nat.blt, Nat.ble, Bool.and_true, Bool.true_and, Bool.and_self, Int.cast_ofNat_Int, i16, s1, b01_t q1', b01_t q1, am0z, am1z, f37, ne_eq, not_true_eq_false, not_false_eq_true, ↓reduceIte]
      · have q2 : tSg T n p = 45 := by rcases q with q | q; exact absurd q q1; exact q
        have q1' : ¬ tSg T n p = ((43 : Nat) : Int) := q1
        have q2' : tSg T n p = ((45 : Nat) : Int) := q2
        simp (disch := first | assumption | omega) only [rX hx, ly_csx, ly_cax, ly_cf, ly_kd, ly_ln, ↓Bool.cond_decide, cond_true, cond_false, ↓bI_p, ↓bV_p, ↓bL_p, bIJ_s, bVJ_s, bLJ_s, ↓am_let_s, Nat.blt, Nat.ble, Bool.and_true, Bool.true_and, Bool.and_self, Int.cast_ofNat_Int, i16, s1, s2, b01_f q1', b01_f q1, b01_t q2', b01_t q2, am0z, am1z, f37, ne_eq, not_true_eq_false, not_false_eq_true, ↓reduceIte]
    · rw [hc, Int.toNat_natCast]
      exact y2
  · rw [if_neg q]
    have q1 : ¬ tSg T n p = ((43 : Nat) : Int) := fun e => q (Or.inl e)
    have q2 : ¬ tSg T n p = ((45 : Nat) : Int) := fun e => q (Or.inr e)
    refine ⟨I, ?_, ⟨fun _ => ⟨hs, rfl, hF.1, by rw [hF.2.1]; exact congrArg (fun x : Nat => am_i (x : Int)) (acS_0 hac List.not_mem_nil).symm, hF.2.2.1, fun k t ht => by simp [pT] at ht, fun k hk => rfl⟩, fun e => absurd rfl e, frF_r I⟩⟩
    rw [sg_X3_sum_6]
    by_cases q16 : i < 1600
    · simp (disch := first | assumption | omega) only [rX hx, ly_csx, ly_cax, ly_cf, ly_kd, ly_ln, ↓Bool.cond_decide, cond_true, cond_false, ↓bI_p, ↓bV_p, ↓bL_p, bIJ_s, bVJ_s, bLJ_s, ↓am_let_s, Nat.blt, Nat.ble, Bool.and_true, Bool.true_and, Bool.and_self, Int.cast_ofNat_Int, am_i_add, am_i_sub, am_i_mul, am_ok_i, am_i_cl, n_lt, n_le, n_eq, n_lt0, n_le0, n_0lt, n_0le, n_eq0, ne_eq, ↓reduceIte, not_true_eq_false, not_false_eq_true, and_true, true_and, and_false, false_and, eq_T, eq_F, lt_T, lt_F, le_T, le_F, qn_T, qn_F, and_F, b01_T, b01_F, e_isIn, Int32.toInt_toInt64, am_i_toInt, am_l_toInt, Int.toNat_natCast, Int.reduceToNat, Int.reduceAdd, Int.reduceSub, Int.reduceMul, Int.reduceNeg, Nat.reduceAdd, Nat.reduceMul, Nat.add_zero, Nat.mul_zero, Nat.zero_add, am_zb0, am_zb1, s1, s2, b01_f q1, b01_f q2, sg_X3_sum_71]
    · simp (disch := first | assumption | omega) only [rX hx, ly_csx, ly_cax, ly_cf, ly_kd, ly_ln, ↓Bool.cond_decide, cond_true, cond_false, ↓bI_p, ↓bV_p, ↓bL_p, bIJ_s, bVJ_s, bLJ_s, ↓am_let_s, Nat.blt, Nat.ble, Bool.and_true, Bool.true_and, Bool.and_self, Int.cast_ofNat_Int, am_i_add, am_i_sub, am_i_mul, am_ok_i, am_i_cl, n_lt, n_le, n_eq, n_lt0, n_le0, n_0lt, n_0le, n_eq0, ne_eq, ↓reduceIte, not_true_eq_false, not_false_eq_true, and_true, true_and, and_false, false_and, eq_T, eq_F, lt_T, lt_F, le_T, le_F, qn_T, qn_F, and_F, b01_T, b01_F, e_isIn, Int32.toInt_toInt64, am_i_toInt, am_l_toInt, Int.toNat_natCast, Int.reduceToNat, Int.reduceAdd, Int.reduceSub, Int.reduceMul, Int.reduceNeg, Nat.reduceAdd, Nat.reduceMul, Nat.add_zero, Nat.mul_zero, Nat.zero_add, am_zb0, am_zb1, sg_X3_sum_71]
theorem x_m7 (hx : st_Rx R) (ih : xGs J R T n so f) {o p e sz ac i : Nat} {I : tI} (ho : o ≤ 6) (hp : p ≤ n) (hf : 10 * (n - p) + 0 + 1 ≤ f + 1) (he : 10 * (6 - o) + 14 ≤ e) (hT : txX T n I R) (hs : scX T n p I) (hF : fS so o sz ac I) (hsz : sz ≤ p) (hac : ac ≤ 1) (hi : i ≤ p) : ∃ I', am_E e 21 6 [(0, .ref 8), (1, .int (am_i i))] [] (I, J, R, 138) = some (none, (I', J, R, 138)) ∧ xP T n o sz ac (pG T n so (f + 1) 7 o p) I I' := by
  obtain ⟨d, rfl⟩ : ∃ d, e = d + 9 := ⟨e - 9, by omega⟩
  show ∃ I', _ ∧ xP T n o sz ac (if tW T n p = 21 then pB (pG T n so f 5 o (tE T n p)) (fun p1 => pB (pT p1 [(3, 21)]) (fun p2 => pG T n so f 7 o p2)) else pT p []) I I'
  have n1 := hT.1
  have vp := vw_p hT hs
  have s1 : ∀ d, am_E (d + 1) 82 0 [(0, .ref 5), (1, .int (am_i 21))] [] (I, J, R, 138) = _ := fun d => e_isWord (d := d) (J := J) (R := R) vp (w := 21) (by omega)
  by_cases q : tW T n p = 21
  · rw [if_pos q]
    have q' : tW T n p = ((21 : Nat) : Int) := q
    have es := tE_s hp (tW_0 (T := T) (n := n) (p := p) (by omega))
    obtain ⟨I1, a1, a2, a3, a4⟩ := x_go (d := d + 4) (J := J) hx hT hp hs (tW_4 (T := T) (n := n) (p := p) (by omega))
    have hf1 : 10 * (n - tE T n p) + 5 + 1 ≤ f := by omega
    have hF1 : fS so o sz ac I1 := ⟨by rw [a4 _ _ (by omega)]; exact hF.1, by rw [a4 _ _ (by omega)]; exact hF.2.1, by rw [a4 _ _ (by omega)]; exact hF.2.2.1, by rw [a4 _ _ (by omega)]; exact hF.2.2.2⟩
    obtain ⟨I2, b1, b2⟩ := ih 5 o (tE T n p) (d + 8) sz ac 0 I1 (by omega) ho es.2 hf1 (by show 10 * (6 - o) + 13 ≤ d + 8; omega) (txX_f hT (frF_5 a4)) a2 hF1 (by omega) hac (by omega)
    have ge := pG_e (T := T) (so := so) (f := f) (md := 5) (o := o) (p := tE T n p) (by omega) ho es.2 hf1
    obtain ⟨I3, z1, z2, -⟩ := xP_E (J := J) hx hac (t := (3, 21)) (by intro e; cases e) (fun q => by have := ge.2 q; omega) b2
    obtain ⟨I4, y1, y2⟩ := x_rest (e := d + 9) (i := i) (md := 7) (m2 := 5) hx ih (Or.inr (Or.inr (Or.inl ⟨rfl, rfl⟩))) ho hp n1 hf (by show 10 * (6 - o) + 14 ≤ d + 9; omega) hT hF hsz hac hi es.1 es.2 a3 a4 b2 z2
    have a1' : am_E (d + 8) 73 0 [(0, .ref 5)] [] (I, J, R, 138) = some (none, (I1, J, R, 138)) := a1
    have b1' : am_E (d + 8) 22 0 [(0, .ref 8)] [] (I1, J, R, 138) = some (none, (I2, J, R, 138)) := b1
    have z1' : ∀ d, am_E (d + 1) 18 0 [(0, .ref 8), (1, .int (am_i 30021))] [] (I2, J, R, 138) = some (none, (I3, J, R, 138)) := z1
    have y1' : am_E (d + 9) 21 6 [(0, .ref 8), (1, .int (am_i (i + 1 : Nat)))] [] (I3, J, R, 138) = some (none, (I4, J, R, 138)) := y1
    have i16 : (am_i 1600 ≤ am_i (i : Int)) = False := eq_false (fun h => absurd ((am_i_le (by omega) (by omega) (by omega) (by omega)).mp h) (by omega))
    refine ⟨I4, ?_, y2⟩
    rw [sg_X3_both_6]
    simp (disch := first | assumption | omega) only [rX hx, ly_csx, ly_cax, ly_cf, ly_kd, ly_ln, ↓Bool.cond_decide, cond_true, cond_false, ↓bI_p, ↓bV_p, ↓bL_p, bIJ_s, bVJ_s, bLJ_s, ↓am_let_s, Nat.blt, Nat.ble, Bool.and_true, Bool.true_and, Bool.and_self, Int.cast_ofNat_Int, i16, s1, b01_t q', b01_t q, am0z, am1z, a1', b1', z1', am_i_add, am_i_s, y1', ne_eq, not_true_eq_false, not_false_eq_true, ↓reduceIte]
  · rw [if_neg q]
    have q1 : ¬ tW T n p = ((21 : Nat) : Int) := q
    refine ⟨I, ?_, ⟨fun _ => ⟨hs, rfl, hF.1, by rw [hF.2.1]; exact congrArg (fun x : Nat => am_i (x : Int)) (acS_0 hac List.not_mem_nil).symm, hF.2.2.1, fun k t ht => by simp [pT] at ht, fun k hk => rfl⟩, fun e => absurd rfl e, frF_r I⟩⟩
    rw [sg_X3_both_6]
    by_cases q16 : i < 1600
    · simp (disch := first | assumption | omega) only [rX hx, ly_csx, ly_cax, ly_cf, ly_kd, ly_ln, ↓Bool.cond_decide, cond_true, cond_false, ↓bI_p, ↓bV_p, ↓bL_p, bIJ_s, bVJ_s, bLJ_s, ↓am_let_s, Nat.blt, Nat.ble, Bool.and_true, Bool.true_and, Bool.and_self, Int.cast_ofNat_Int, am_i_add, am_i_sub, am_i_mul, am_ok_i, am_i_cl, n_lt, n_le, n_eq, n_lt0, n_le0, n_0lt, n_0le, n_eq0, ne_eq, ↓reduceIte, not_true_eq_false, not_false_eq_true, and_true, true_and, and_false, false_and, eq_T, eq_F, lt_T, lt_F, le_T, le_F, qn_T, qn_F, and_F, b01_T, b01_F, e_isIn, Int32.toInt_toInt64, am_i_toInt, am_l_toInt, Int.toNat_natCast, Int.reduceToNat, Int.reduceAdd, Int.reduceSub, Int.reduceMul, Int.reduceNeg, Nat.reduceAdd, Nat.reduceMul, Nat.add_zero, Nat.mul_zero, Nat.zero_add, am_zb0, am_zb1, s1, b01_f q1, sg_X3_both_49]
    · simp (disch := first | assumption | omega) only [rX hx, ly_csx, ly_cax, ly_cf, ly_kd, ly_ln, ↓Bool.cond_decide, cond_true, cond_false, ↓bI_p, ↓bV_p, ↓bL_p, bIJ_s, bVJ_s, bLJ_s, ↓am_let_s, Nat.blt, Nat.ble, Bool.and_true, Bool.true_and, Bool.and_self, Int.cast_ofNat_Int, am_i_add, am_i_sub, am_i_mul, am_ok_i, am_i_cl, n_lt, n_le, n_eq, n_lt0, n_le0, n_0lt, n_0le, n_eq0, ne_eq, ↓reduceIte, not_true_eq_false, not_false_eq_true, and_true, true_and, and_false, false_and, eq_T, eq_F, lt_T, lt_F, le_T, le_F, qn_T, qn_F, and_F, b01_T, b01_F, e_isIn, Int32.toInt_toInt64, am_i_toInt, am_l_toInt, Int.toNat_natCast, Int.reduceToNat, Int.reduceAdd, Int.reduceSub, Int.reduceMul, Int.reduceNeg, Nat.reduceAdd, Nat.reduceMul, Nat.add_zero, Nat.mul_zero, Nat.zero_add, am_zb0, am_zb1, sg_X3_both_49]
theorem x_m9 (hx : st_Rx R) (ih : xGs J R T n so f) {o p e sz ac i : Nat} {I : tI} (ho : o ≤ 6) (hp : p ≤ n) (hf : 10 * (n - p) + 0 + 1 ≤ f + 1) (he : 10 * (6 - o) + 15 ≤ e) (hT : txX T n I R) (hs : scX T n p I) (hF : fS so o sz ac I) (hsz : sz ≤ p) (hac : ac ≤ 1) (hi : i ≤ p) : ∃ I', am_E e 20 6 [(0, .ref 8), (1, .int (am_i i))] [] (I, J, R, 138) = some (none, (I', J, R, 138)) ∧ xP T n o sz ac (pG T n so (f + 1) 9 o p) I I' := by
  obtain ⟨d, rfl⟩ : ∃ d, e = d + 9 := ⟨e - 9, by omega⟩
  show ∃ I', _ ∧ xP T n o sz ac (if tW T n p = 20 then pB (pG T n so f 6 o (tE T n p)) (fun p1 => pB (pT p1 [(3, 20)]) (fun p2 => pG T n so f 9 o p2)) else pT p []) I I'
  have n1 := hT.1
  have vp := vw_p hT hs
  have s1 : ∀ d, am_E (d + 1) 82 0 [(0, .ref 5), (1, .int (am_i 20))] [] (I, J, R, 138) = _ := fun d => e_isWord (d := d) (J := J) (R := R) vp (w := 20) (by omega)
  by_cases q : tW T n p = 20
  · rw [if_pos q]
    have q' : tW T n p = ((20 : Nat) : Int) := q
    have es := tE_s hp (tW_0 (T := T) (n := n) (p := p) (by omega))
    obtain ⟨I1, a1, a2, a3, a4⟩ := x_go (d := d + 4) (J := J) hx hT hp hs (tW_4 (T := T) (n := n) (p := p) (by omega))
    have hf1 : 10 * (n - tE T n p) + 6 + 1 ≤ f := by omega
    have hF1 : fS so o sz ac I1 := ⟨by rw [a4 _ _ (by omega)]; exact hF.1, by rw [a4 _ _ (by omega)]; exact hF.2.1, by rw [a4 _ _ (by omega)]; exact hF.2.2.1, by rw [a4 _ _ (by omega)]; exact hF.2.2.2⟩
    obtain ⟨I2, b1, b2⟩ := ih 6 o (tE T n p) (d + 8) sz ac 0 I1 (by omega) ho es.2 hf1 (by show 10 * (6 - o) + 14 ≤ d + 8; omega) (txX_f hT (frF_5 a4)) a2 hF1 (by omega) hac (by omega)
    have ge := pG_e (T := T) (so := so) (f := f) (md := 6) (o := o) (p := tE T n p) (by omega) ho es.2 hf1
    obtain ⟨I3, z1, z2, -⟩ := xP_E (J := J) hx hac (t := (3, 20)) (by intro e; cases e) (fun q => by have := ge.2 q; omega) b2
    obtain ⟨I4, y1, y2⟩ := x_rest (e := d + 9) (i := i) (md := 9) (m2 := 6) hx ih (Or.inr (Or.inr (Or.inr ⟨rfl, rfl⟩))) ho hp n1 hf (by show 10 * (6 - o) + 15 ≤ d + 9; omega) hT hF hsz hac hi es.1 es.2 a3 a4 b2 z2
    have a1' : am_E (d + 8) 73 0 [(0, .ref 5)] [] (I, J, R, 138) = some (none, (I1, J, R, 138)) := a1
    have b1' : am_E (d + 8) 21 0 [(0, .ref 8)] [] (I1, J, R, 138) = some (none, (I2, J, R, 138)) := b1
    have z1' : ∀ d, am_E (d + 1) 18 0 [(0, .ref 8), (1, .int (am_i 30020))] [] (I2, J, R, 138) = some (none, (I3, J, R, 138)) := z1
    have y1' : am_E (d + 9) 20 6 [(0, .ref 8), (1, .int (am_i (i + 1 : Nat)))] [] (I3, J, R, 138) = some (none, (I4, J, R, 138)) := y1
    have i16 : (am_i 1600 ≤ am_i (i : Int)) = False := eq_false (fun h => absurd ((am_i_le (by omega) (by omega) (by omega) (by omega)).mp h) (by omega))
    refine ⟨I4, ?_, y2⟩
    rw [sg_X3_test_6]
    simp (disch := first | assumption | omega) only [rX hx, ly_csx, ly_cax, ly_cf, ly_kd, ly_ln, ↓Bool.cond_decide, cond_true, cond_false, ↓bI_p, ↓bV_p, ↓bL_p, bIJ_s, bVJ_s, bLJ_s, ↓am_let_s, Nat.blt, Nat.ble, Bool.and_true, Bool.true_and, Bool.and_self, Int.cast_ofNat_Int, i16, s1, b01_t q', b01_t q, am0z, am1z, a1', b1', z1', am_i_add, am_i_s, y1', ne_eq, not_true_eq_false, not_false_eq_true, ↓reduceIte]
  · rw [if_neg q]
    have q1 : ¬ tW T n p = ((20 : Nat) : Int) := q
    refine ⟨I, ?_, ⟨fun _ => ⟨hs, rfl, hF.1, by rw [hF.2.1]; exact congrArg (fun x : Nat => am_i (x : Int)) (acS_0 hac List.not_mem_nil).symm, hF.2.2.1, fun k t ht => by simp [pT] at ht, fun k hk => rfl⟩, fun e => absurd rfl e, frF_r I⟩⟩
    rw [sg_X3_test_6]
    by_cases q16 : i < 1600
    · simp (disch := first | assumption | omega) only [rX hx, ly_csx, ly_cax, ly_cf, ly_kd, ly_ln, ↓Bool.cond_decide, cond_true, cond_false, ↓bI_p, ↓bV_p, ↓bL_p, bIJ_s, bVJ_s, bLJ_s, ↓am_let_s, Nat.blt, Nat.ble, Bool.and_true, Bool.true_and, Bool.and_self, Int.cast_ofNat_Int, am_i_add, am_i_sub, am_i_mul, am_ok_i, am_i_cl, n_lt, n_le, n_eq, n_lt0, n_le0, n_0lt, n_0le, n_eq0, ne_eq, ↓reduceIte, not_true_eq_false, not_false_eq_true, and_true, true_and, and_false, false_and, eq_T, eq_F, lt_T, lt_F, le_T, le_F, qn_T, qn_F, and_F, b01_T, b01_F, e_isIn, Int32.toInt_toInt64, am_i_toInt, am_l_toInt, Int.toNat_natCast, Int.reduceToNat, Int.reduceAdd, Int.reduceSub, Int.reduceMul, Int.reduceNeg, Nat.reduceAdd, Nat.reduceMul, Nat.add_zero, Nat.mul_zero, Nat.zero_add, am_zb0, am_zb1, s1, b01_f q1, sg_X3_test_49]
    · simp (disch := first | assumption | omega) only [rX hx, ly_csx, ly_cax, ly_cf, ly_kd, ly_ln, ↓Bool.cond_decide, cond_true, cond_false, ↓bI_p, ↓bV_p, ↓bL_p, bIJ_s, bVJ_s, bLJ_s, ↓am_let_s, Nat.blt, Nat.ble, Bool.and_true, Bool.true_and, Bool.and_self, Int.cast_ofNat_Int, am_i_add, am_i_sub, am_i_mul, am_ok_i, am_i_cl, n_lt, n_le, n_eq, n_lt0, n_le0, n_0lt, n_0le, n_eq0, ne_eq, ↓reduceIte, not_true_eq_false, not_false_eq_true, and_true, true_and, and_false, false_and, eq_T, eq_F, lt_T, lt_F, le_T, le_F, qn_T, qn_F, and_F, b01_T, b01_F, e_isIn, Int32.toInt_toInt64, am_i_toInt, am_l_toInt, Int.toNat_natCast, Int.reduceToNat, Int.reduceAdd, Int.reduceSub, Int.reduceMul, Int.reduceNeg, Nat.reduceAdd, Nat.reduceMul, Nat.add_zero, Nat.mul_zero, Nat.zero_add, am_zb0, am_zb1, sg_X3_test_49]
end XMD2
