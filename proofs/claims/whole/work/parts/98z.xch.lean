/-! ===== the chart that a sound is read into: the class ===== -/
def xCh (c : Nat) (X : sSt) (I : tI) : Prop :=
  (I c 0 = am_i X.la ∧ I c 1 = am_i X.bn.length ∧ I c 2 = am_i X.rd.length ∧ I c 3 = am_i X.nw ∧ I c 4 = am_i X.wd ∧ I c 5 = am_i X.sq) ∧
  (∀ (b : Nat) (x : sBo), X.bn[b]? = some x → I (c + 1) b = am_i (pk5 x.nm) ∧ I (c + 4) b = am_i x.sc.length ∧ I (c + 5) (11 * b) = am_i x.mi ∧ I (c + 5) (11 * b + 1) = am_i x.ti ∧ I (c + 5) (11 * b + 2) = am_i x.ro ∧ ∀ (k v : Nat), x.sc[k]? = some v → I (c + 5) (11 * b + 5 + k) = am_i v) ∧
  ((∀ b, X.bn.length ≤ b → b < 6 → I (c + 4) b = am_i 0) ∧ ∀ b, b < 6 → I (c + 5) (11 * b + 3) = am_i 0 ∧ I (c + 5) (11 * b + 4) = am_i 0) ∧
  (∀ (r : Nat) (y : List Nat × Nat), X.rd[r]? = some y → I (c + 2) r = am_i (pk5 y.1) ∧ I (c + 3) r = am_i y.2) ∧
  (∀ m, m ≤ 60 → I (c + 6) m = am_i (X.wf m)) ∧
  (∀ f, f < 3 → (X.fo f = none → I (c + 8) f = am_i 0 ∧ I (c + 9) f = am_i 0) ∧ ∀ a l, X.fo f = some (a, l) → I (c + 8) f = am_i a ∧ I (c + 9) f = am_i (a + l.length : Nat) ∧ ∀ (k : Nat) (t : tok), l[k]? = some t → I 9 (a + k) = am_i (encX t)) ∧ I 8 2 = am_i X.sz
/-- what holds of a sound that is being told: i statements, place p -/
def sOK (n p i : Nat) (X : sSt) : Prop := (5 ≤ X.la ∧ X.la ≤ 60 ∧ X.wd ≤ 9 ∧ X.sq ≤ 100 ∧ X.nw ≤ i ∧ X.bn.length ≤ 6 ∧ X.rd.length ≤ 6 ∧ X.sz + 4 ≤ p ∧ p ≤ n) ∧
  (∀ x ∈ X.bn, x.mi ≤ X.la ∧ x.ti ≤ 99 ∧ x.ro ≤ 99 ∧ x.sc.length ≤ 6 ∧ ∀ v ∈ x.sc, v < 8) ∧ (∀ y ∈ X.rd, y.2 < 8) ∧ (∀ l ∈ sNm X, 1 ≤ l.length ∧ l.length ≤ 6 ∧ ∀ x ∈ l, 1 ≤ x ∧ x ≤ 26) ∧ (∀ m, X.wf m < 256) ∧ ∀ f a l, X.fo f = some (a, l) → a + l.length ≤ X.sz ∧ 1 ≤ l.length ∧ frT false (f == 2) l
theorem rCa {c : Nat} (hc : c = 10 ∨ c = 20) : (∀ i, am_ca 138 (c + 1) 1 i = am_ok i 6) ∧ (∀ i, am_ca 138 (c + 2) 1 i = am_ok i 6) ∧ (∀ i, am_ca 138 (c + 3) 1 i = am_ok i 6) ∧ (∀ i, am_ca 138 (c + 4) 1 i = am_ok i 6) ∧ (∀ i, am_ca 138 (c + 5) 1 i = am_ok i 66) ∧ (∀ i, am_ca 138 (c + 6) 1 i = am_ok i 61) ∧ (∀ i, am_ca 138 (c + 7) 1 i = am_ok i 1600) ∧ (∀ i, am_ca 138 (c + 8) 1 i = am_ok i 3) ∧ (∀ i, am_ca 138 (c + 9) 1 i = am_ok i 3) := by
  rcases hc with rfl | rfl <;> simp only [ly_cax, Nat.reduceAdd, implies_true, and_self]
theorem xCh_c {c : Nat} {X : sSt} {I I' : tI} (h : xCh c X I) (e : ∀ q j, (c ≤ q ∧ q ≤ c + 9) ∨ q = 9 ∨ (q = 8 ∧ j = 2) → I' q j = I q j) : xCh c X I' := by
  obtain ⟨⟨a0, a1, a2, a3, a4, a5⟩, hb, ⟨hz, hz2⟩, hr, hw, hf, h8⟩ := h
  have g : ∀ k j, k ≤ 9 → I' (c + k) j = I (c + k) j := fun k j hk => e _ _ (Or.inl (by omega))
  have g0 : ∀ j, I' c j = I c j := fun j => e _ _ (Or.inl (by omega))
  refine ⟨⟨by rw [g0]; exact a0, by rw [g0]; exact a1, by rw [g0]; exact a2, by rw [g0]; exact a3, by rw [g0]; exact a4, by rw [g0]; exact a5⟩, fun b x hx => ?_, ⟨fun b h1 h2 => by rw [g _ _ (by omega)]; exact hz b h1 h2, fun b hb => by rw [g _ _ (by omega), g _ _ (by omega)]; exact hz2 b hb⟩, fun r y hy => ?_, fun m hm => by rw [g _ _ (by omega)]; exact hw m hm, fun f hf3 => ⟨fun q => ?_, fun a l q => ?_⟩, by rw [e _ _ (Or.inr (Or.inr ⟨rfl, rfl⟩))]; exact h8⟩
  · obtain ⟨b1, b2, b3, b4, b5, b6⟩ := hb b x hx
    exact ⟨by rw [g _ _ (by omega)]; exact b1, by rw [g _ _ (by omega)]; exact b2, by rw [g _ _ (by omega)]; exact b3, by rw [g _ _ (by omega)]; exact b4, by rw [g _ _ (by omega)]; exact b5, fun k v hv => by rw [g _ _ (by omega)]; exact b6 k v hv⟩
  · rw [g _ _ (by omega), g _ _ (by omega)]
    exact hr r y hy
  · rw [g _ _ (by omega), g _ _ (by omega)]
    exact (hf f hf3).1 q
  · obtain ⟨c1, c2, c3⟩ := (hf f hf3).2 a l q
    exact ⟨by rw [g _ _ (by omega)]; exact c1, by rw [g _ _ (by omega)]; exact c2, fun k t ht => by rw [e _ _ (Or.inr (Or.inl rfl))]; exact c3 k t ht⟩
section XCH
variable {d : Nat} {J : tJ} {R : tR} {T : Nat → Nat} {n p i c : Nat} {I I' : tI} {X : sSt}
def nOK (l : List Nat) : Prop := 1 ≤ l.length ∧ l.length ≤ 6 ∧ ∀ x ∈ l, 1 ≤ x ∧ x ≤ 26
theorem nOK_b {l : List Nat} (h : nOK l) : pk5 l < 2 ^ 30 := pk5_b h.2.1 (fun x hx => by have := h.2.2 x hx; omega)
theorem nOK_e {l k : List Nat} (h : nOK l) (h2 : nOK k) : (am_i (pk5 l : Nat) = am_i (pk5 k : Nat)) = (l = k) := by
  have b1 := nOK_b h
  have b2 := nOK_b h2
  have e : (2 : Nat) ^ 30 = 1073741824 := by decide
  rw [n_eq (by omega) (by omega) (by omega) (by omega)]
  apply propext
  constructor
  · intro q; exact pk5_i h.2.1 h2.2.1 h.2.2 h2.2.2 (by omega)
  · rintro rfl; rfl
theorem x_bNamed (hx : st_Rx R) (hc : c = 10 ∨ c = 20) {l : List Nat} (hl : nOK l) (bn : List sBo) (h1 : I c 1 = am_i bn.length) (h6 : bn.length ≤ 6) (hb : ∀ b x, bn[b]? = some x → I (c + 1) b = am_i (pk5 x.nm) ∧ nOK x.nm) : ∀ (m i : Nat), i + m = bn.length → am_E (d + 1) 8 2 [(0, .ref c), (1, .int (am_i (pk5 l : Nat))), (2, .int (am_i i))] [] (I, J, R, 138) = some (some (.int (am_i (if sWh l (bn.drop i) = (bn.drop i).length then -1 else ((i + sWh l (bn.drop i) : Nat) : Int)))), (I, J, R, 138))
  | 0, i, hi => by
    obtain rfl : i = bn.length := by omega
    rw [List.drop_length, if_pos (show sWh l [] = ([] : List sBo).length from rfl), sg_X1_boatNamed_2]
    simp (disch := first | assumption | omega) only [rX hx, ly_csx, ly_cax, ly_cf, ly_kd, ly_ln, ↓Bool.cond_decide, cond_true, cond_false, ↓bI_p, ↓bV_p, ↓bL_p, bIJ_s, bVJ_s, bLJ_s, ↓am_let_s, Nat.blt, Nat.ble, Bool.and_true, Bool.true_and, Bool.and_self, Int.cast_ofNat_Int, am_i_add, am_i_sub, am_i_mul, am_ok_i, am_i_cl, n_lt, n_le, n_eq, n_lt0, n_le0, n_0lt, n_0le, n_eq0, ne_eq, ↓reduceIte, not_true_eq_false, not_false_eq_true, and_true, true_and, and_false, false_and, eq_T, eq_F, lt_T, lt_F, le_T, le_F, qn_T, qn_F, and_F, b01_T, b01_F, e_isIn, Int32.toInt_toInt64, am_i_toInt, am_l_toInt, Int.toNat_natCast, Int.reduceToNat, Int.reduceAdd, Int.reduceSub, Int.reduceMul, Int.reduceNeg, Nat.reduceAdd, Nat.reduceMul, Nat.add_zero, Nat.mul_zero, Nat.zero_add, am_zb0, am_zb1, rC hx hc, h1]
  | m + 1, i, hi => by
    have lt : i < bn.length := by omega
    obtain ⟨x, hx'⟩ : ∃ x, bn[i]? = some x := ⟨_, List.getElem?_eq_getElem lt⟩
    obtain ⟨b1, b2⟩ := hb i x hx'
    have ed : bn.drop i = x :: bn.drop (i + 1) := by
      rw [List.drop_eq_getElem_cons lt]
      congr 1
      rw [List.getElem?_eq_getElem lt] at hx'
      exact Option.some.inj hx'
    have ih := x_bNamed hx hc hl bn h1 h6 hb m (i + 1) (by omega)
    rw [ed, sg_X1_boatNamed_2]
    by_cases q : x.nm = l
    · have e0 : sWh l (x :: bn.drop (i + 1)) = 0 := if_pos q
      rw [e0, if_neg (by rw [List.length_cons]; omega)]
      rw [q] at b1
      simp (disch := first | assumption | omega) only [rX hx, ly_csx, ly_cax, ly_cf, ly_kd, ly_ln, ↓Bool.cond_decide, cond_true, cond_false, ↓bI_p, ↓bV_p, ↓bL_p, bIJ_s, bVJ_s, bLJ_s, ↓am_let_s, Nat.blt, Nat.ble, Bool.and_true, Bool.true_and, Bool.and_self, Int.cast_ofNat_Int, am_i_add, am_i_sub, am_i_mul, am_ok_i, am_i_cl, n_lt, n_le, n_eq, n_lt0, n_le0, n_0lt, n_0le, n_eq0, ne_eq, ↓reduceIte, not_true_eq_false, not_false_eq_true, and_true, true_and, and_false, false_and, eq_T, eq_F, lt_T, lt_F, le_T, le_F, qn_T, qn_F, and_F, b01_T, b01_F, e_isIn, Int32.toInt_toInt64, am_i_toInt, am_l_toInt, Int.toNat_natCast, Int.reduceToNat, Int.reduceAdd, Int.reduceSub, Int.reduceMul, Int.reduceNeg, Nat.reduceAdd, Nat.reduceMul, Nat.add_zero, Nat.mul_zero, Nat.zero_add, am_zb0, am_zb1, rC hx hc, h1, b1]
    · have e0 : sWh l (x :: bn.drop (i + 1)) = sWh l (bn.drop (i + 1)) + 1 := if_neg q
      have ne : (am_i (pk5 x.nm : Nat) = am_i (pk5 l : Nat)) = False := by rw [nOK_e b2 hl]; exact eq_false q
      have e2 : (if sWh l (bn.drop (i + 1)) + 1 = (x :: bn.drop (i + 1)).length then (-1 : Int) else ((i + (sWh l (bn.drop (i + 1)) + 1) : Nat) : Int)) = (if sWh l (bn.drop (i + 1)) = (bn.drop (i + 1)).length then (-1 : Int) else ((i + 1 + sWh l (bn.drop (i + 1)) : Nat) : Int)) := by
        rw [List.length_cons]
        by_cases z : sWh l (bn.drop (i + 1)) = (bn.drop (i + 1)).length
        · rw [if_pos z, if_pos (by omega)]
        · rw [if_neg z, if_neg (by omega)]
          congr 1
          omega
      rw [e0, e2, ← ih]
      simp (disch := first | assumption | omega) only [rX hx, ly_csx, ly_cax, ly_cf, ly_kd, ly_ln, ↓Bool.cond_decide, cond_true, cond_false, ↓bI_p, ↓bV_p, ↓bL_p, bIJ_s, bVJ_s, bLJ_s, ↓am_let_s, Nat.blt, Nat.ble, Bool.and_true, Bool.true_and, Bool.and_self, Int.cast_ofNat_Int, am_i_add, am_i_sub, am_i_mul, am_ok_i, am_i_cl, n_lt, n_le, n_eq, n_lt0, n_le0, n_0lt, n_0le, n_eq0, ne_eq, ↓reduceIte, not_true_eq_false, not_false_eq_true, and_true, true_and, and_false, false_and, eq_T, eq_F, lt_T, lt_F, le_T, le_F, qn_T, qn_F, and_F, b01_T, b01_F, e_isIn, Int32.toInt_toInt64, am_i_toInt, am_l_toInt, Int.toNat_natCast, Int.reduceToNat, Int.reduceAdd, Int.reduceSub, Int.reduceMul, Int.reduceNeg, Nat.reduceAdd, Nat.reduceMul, Nat.add_zero, Nat.mul_zero, Nat.zero_add, am_zb0, am_zb1, rC hx hc, h1, b1, ne, am_i_s]
theorem x_boatNamed (hx : st_Rx R) (hc : c = 10 ∨ c = 20) {l : List Nat} (hl : nOK l) (hX : xCh c X I) (hO : sOK n p i X) : am_E (d + 1) 8 0 [(0, .ref c), (1, .int (am_i (pk5 l : Nat)))] [] (I, J, R, 138) = some (some (.int (am_i (if sWh l X.bn = X.bn.length then -1 else ((sWh l X.bn : Nat) : Int)))), (I, J, R, 138)) := by
  have := x_bNamed (d := d) (J := J) hx hc hl X.bn hX.1.2.1 hO.1.2.2.2.2.2.1 (fun b x e => ⟨(hX.2.1 b x e).1, hO.2.2.2.1 x.nm (List.mem_append.mpr (Or.inl (List.mem_map.mpr ⟨x, List.mem_of_getElem? e, rfl⟩)))⟩) X.bn.length 0 (by omega)
  rw [List.drop_zero] at this
  rw [sg_X1_boatNamed_0]
  simp only [Nat.zero_add] at this
  exact this
theorem sWh_m {l : List Nat} : ∀ (bn : List sBo), sWh l bn ≤ bn.length ∧ (sWh l bn ≠ bn.length ↔ l ∈ bn.map sBo.nm)
  | [] => ⟨Nat.le_refl _, by simp [sWh]⟩
  | x :: r => by
    have ih := sWh_m (l := l) r
    by_cases q : x.nm = l
    · have e : sWh l (x :: r) = 0 := if_pos q
      rw [e]
      exact ⟨Nat.zero_le _, fun _ => by rw [List.map_cons, q]; exact List.mem_cons_self, fun _ => by rw [List.length_cons]; omega⟩
    · have e : sWh l (x :: r) = sWh l r + 1 := if_neg q
      rw [e, List.length_cons, List.map_cons]
      refine ⟨by omega, fun h => List.mem_cons_of_mem _ (ih.2.mp (by omega)), fun h => ?_⟩
      rcases List.mem_cons.mp h with c | c
      · exact absurd c.symm q
      · have := ih.2.mpr c; omega
theorem x_rNamed (hx : st_Rx R) (hc : c = 10 ∨ c = 20) {l : List Nat} (hl : nOK l) (hX : xCh c X I) (hO : sOK n p i X) : ∀ (m j : Nat), j + m = X.rd.length → am_E (d + 2) 9 2 [(0, .ref c), (1, .int (am_i (pk5 l : Nat))), (2, .int (am_i j))] [] (I, J, R, 138) = some (some (.int (b01 (l ∈ X.bn.map sBo.nm ++ (X.rd.drop j).map Prod.fst))), (I, J, R, 138))
  | 0, j, hj => by
    obtain rfl : j = X.rd.length := by omega
    have r6 := hO.1.2.2.2.2.2.2.1
    have h2 := hX.1.2.2.1
    have bn := fun d => x_boatNamed (d := d) (J := J) hx hc hl hX hO
    have sm := sWh_m (l := l) X.bn
    have b6 := hO.1.2.2.2.2.2.1
    rw [List.drop_length, List.map_nil, List.append_nil, sg_X1_isNamed_2]
    by_cases q : sWh l X.bn = X.bn.length
    · have q' : ¬ l ∈ X.bn.map sBo.nm := fun c => sm.2.mpr c q
      rw [if_pos q] at bn
      simp (disch := first | assumption | omega) only [rX hx, ly_csx, ly_cax, ly_cf, ly_kd, ly_ln, ↓Bool.cond_decide, cond_true, cond_false, ↓bI_p, ↓bV_p, ↓bL_p, bIJ_s, bVJ_s, bLJ_s, ↓am_let_s, Nat.blt, Nat.ble, Bool.and_true, Bool.true_and, Bool.and_self, Int.cast_ofNat_Int, am_i_add, am_i_sub, am_i_mul, am_ok_i, am_i_cl, n_lt, n_le, n_eq, n_lt0, n_le0, n_0lt, n_0le, n_eq0, ne_eq, ↓reduceIte, not_true_eq_false, not_false_eq_true, and_true, true_and, and_false, false_and, eq_T, eq_F, lt_T, lt_F, le_T, le_F, qn_T, qn_F, and_F, b01_T, b01_F, e_isIn, Int32.toInt_toInt64, am_i_toInt, am_l_toInt, Int.toNat_natCast, Int.reduceToNat, Int.reduceAdd, Int.reduceSub, Int.reduceMul, Int.reduceNeg, Nat.reduceAdd, Nat.reduceMul, Nat.add_zero, Nat.mul_zero, Nat.zero_add, am_zb0, am_zb1, rC hx hc, h2, bn, b01_f q']
    · rw [if_neg q] at bn
      simp (disch := first | assumption | omega) only [rX hx, ly_csx, ly_cax, ly_cf, ly_kd, ly_ln, ↓Bool.cond_decide, cond_true, cond_false, ↓bI_p, ↓bV_p, ↓bL_p, bIJ_s, bVJ_s, bLJ_s, ↓am_let_s, Nat.blt, Nat.ble, Bool.and_true, Bool.true_and, Bool.and_self, Int.cast_ofNat_Int, am_i_add, am_i_sub, am_i_mul, am_ok_i, am_i_cl, n_lt, n_le, n_eq, n_lt0, n_le0, n_0lt, n_0le, n_eq0, ne_eq, ↓reduceIte, not_true_eq_false, not_false_eq_true, and_true, true_and, and_false, false_and, eq_T, eq_F, lt_T, lt_F, le_T, le_F, qn_T, qn_F, and_F, b01_T, b01_F, e_isIn, Int32.toInt_toInt64, am_i_toInt, am_l_toInt, Int.toNat_natCast, Int.reduceToNat, Int.reduceAdd, Int.reduceSub, Int.reduceMul, Int.reduceNeg, Nat.reduceAdd, Nat.reduceMul, Nat.add_zero, Nat.mul_zero, Nat.zero_add, am_zb0, am_zb1, rC hx hc, h2, bn, b01_t (sm.2.mp q)]
  | m + 1, j, hj => by
    have r6 := hO.1.2.2.2.2.2.2.1
    have h2 := hX.1.2.2.1
    have lt : j < X.rd.length := by omega
    obtain ⟨y, hy⟩ : ∃ y, X.rd[j]? = some y := ⟨_, List.getElem?_eq_getElem lt⟩
    have b1 := (hX.2.2.2.1 j y hy).1
    have b2 : nOK y.1 := hO.2.2.2.1 y.1 (List.mem_append.mpr (Or.inr (List.mem_map.mpr ⟨y, List.mem_of_getElem? hy, rfl⟩)))
    have ed : X.rd.drop j = y :: X.rd.drop (j + 1) := by
      rw [List.drop_eq_getElem_cons lt]
      congr 1
      rw [List.getElem?_eq_getElem lt] at hy
      exact Option.some.inj hy
    have ih := x_rNamed hx hc hl hX hO m (j + 1) (by omega)
    rw [ed, List.map_cons, sg_X1_isNamed_2]
    by_cases q : y.1 = l
    · rw [b01_t (List.mem_append.mpr (Or.inr (by rw [q]; exact List.mem_cons_self)))]
      rw [q] at b1
      simp (disch := first | assumption | omega) only [rX hx, ly_csx, ly_cax, ly_cf, ly_kd, ly_ln, ↓Bool.cond_decide, cond_true, cond_false, ↓bI_p, ↓bV_p, ↓bL_p, bIJ_s, bVJ_s, bLJ_s, ↓am_let_s, Nat.blt, Nat.ble, Bool.and_true, Bool.true_and, Bool.and_self, Int.cast_ofNat_Int, am_i_add, am_i_sub, am_i_mul, am_ok_i, am_i_cl, n_lt, n_le, n_eq, n_lt0, n_le0, n_0lt, n_0le, n_eq0, ne_eq, ↓reduceIte, not_true_eq_false, not_false_eq_true, and_true, true_and, and_false, false_and, eq_T, eq_F, lt_T, lt_F, le_T, le_F, qn_T, qn_F, and_F, b01_T, b01_F, e_isIn, Int32.toInt_toInt64, am_i_toInt, am_l_toInt, Int.toNat_natCast, Int.reduceToNat, Int.reduceAdd, Int.reduceSub, Int.reduceMul, Int.reduceNeg, Nat.reduceAdd, Nat.reduceMul, Nat.add_zero, Nat.mul_zero, Nat.zero_add, am_zb0, am_zb1, rC hx hc, h2, b1]
    · have ne : (am_i (pk5 y.1 : Nat) = am_i (pk5 l : Nat)) = False := by rw [nOK_e b2 hl]; exact eq_false q
      have e01 : b01 (l ∈ X.bn.map sBo.nm ++ y.1 :: (X.rd.drop (j + 1)).map Prod.fst) = b01 (l ∈ X.bn.map sBo.nm ++ (X.rd.drop (j + 1)).map Prod.fst) := by
        have : (l ∈ X.bn.map sBo.nm ++ y.1 :: (X.rd.drop (j + 1)).map Prod.fst) ↔ (l ∈ X.bn.map sBo.nm ++ (X.rd.drop (j + 1)).map Prod.fst) := by
          rw [List.mem_append, List.mem_append, List.mem_cons]
          constructor
          · rintro (z | z | z)
            · exact Or.inl z
            · exact absurd z.symm q
            · exact Or.inr z
          · rintro (z | z)
            · exact Or.inl z
            · exact Or.inr (Or.inr z)
        by_cases z : l ∈ X.bn.map sBo.nm ++ (X.rd.drop (j + 1)).map Prod.fst
        · rw [b01_t z, b01_t (this.mpr z)]
        · rw [b01_f z, b01_f (fun w => z (this.mp w))]
      rw [e01, ← ih]
      simp (disch := first | assumption | omega) only [rX hx, ly_csx, ly_cax, ly_cf, ly_kd, ly_ln, ↓Bool.cond_decide, cond_true, cond_false, ↓bI_p, ↓bV_p, ↓bL_p, bIJ_s, bVJ_s, bLJ_s, ↓am_let_s, Nat.blt, Nat.ble, Bool.and_true, Bool.true_and, Bool.and_self, Int.cast_ofNat_Int, am_i_add, am_i_sub, am_i_mul, am_ok_i, am_i_cl, n_lt, n_le, n_eq, n_lt0, n_le0, n_0lt, n_0le, n_eq0, ne_eq, ↓reduceIte, not_true_eq_false, not_false_eq_true, and_true, true_and, and_false, false_and, eq_T, eq_F, lt_T, lt_F, le_T, le_F, qn_T, qn_F, and_F, b01_T, b01_F, e_isIn, Int32.toInt_toInt64, am_i_toInt, am_l_toInt, Int.toNat_natCast, Int.reduceToNat, Int.reduceAdd, Int.reduceSub, Int.reduceMul, Int.reduceNeg, Nat.reduceAdd, Nat.reduceMul, Nat.add_zero, Nat.mul_zero, Nat.zero_add, am_zb0, am_zb1, rC hx hc, h2, b1, ne, am_i_s]
/-- a name that is new -/
theorem x_newName (hx : st_Rx R) (h2 : R 30 2 = c) (hc : c = 10 ∨ c = 20) (hT : txX T n I R) {q : Nat} (hq : q ≤ n) (h : scX T n q I) (h11 : I 5 11 = am_i (-1)) (hX : xCh c X I) (hO : sOK n p i X) : ∃ (v : Nat) (I' : tI), am_E (d + 5) 93 0 [(0, .ref 30)] [] (I, J, R, 138) = some (some (.int (am_i v)), (I', J, R, 138)) ∧ ((aK T n q X).1 = 0 → v = pk5 (tL T n q)) ∧ xR T n (aK T n q X) I' ∧ ∀ q j, q ≠ 5 → I' q j = I q j := by
  obtain ⟨I1, a1, a2, a3, a4⟩ := x_needName (J := J) hT hq h
  have kb := aK_b (T := T) (X := X) hq
  by_cases q1 : (aM T n q).1 = 0
  · have e1 := a2 q1
    subst e1
    obtain ⟨k1, tn6, nw, -⟩ := tL_b q1
    obtain ⟨l1, l2, l3⟩ := tL_x hq k1
    have hl : nOK (tL T n q) := ⟨by omega, by omega, l3⟩
    have h9 := (h.2.2.2.2.2.1 k1).2.2 tn6
    have h10 := h.2.2.2.2.1
    have h4 := h.2.2.1
    have nm := fun d => x_rNamed (d := d) (J := J) hx hc hl hX hO X.rd.length 0 (by omega)
    rw [List.drop_zero] at nm
    have nm' : ∀ d, am_E (d + 2) 9 0 [(0, .ref c), (1, .int (am_i (pk5 (tL T n q) : Nat)))] [] (I1, J, R, 138) = some (some (.int (b01 (tL T n q ∈ sNm X))), (I1, J, R, 138)) := fun d => by
      rw [sg_X1_isNamed_0]
      exact nm d
    by_cases q2 : tL T n q ∈ sNm X
    · have ek : aK T n q X = (3, tAt T n q) := by unfold aK; rw [rS_0 q1, if_pos q2]
      rw [ek]
      have fl : ∀ d, am_E (d + 1) 71 0 [(0, .ref 5), (1, .int (am_i 3)), (2, .int (am_i (tAt T n q)))] [] (I1, J, R, 138) = some (none, (am_up (am_up (am_up I1 5 10 (am_i 3)) 5 11 (am_i (tAt T n q))) 5 5 (am_i 4), J, R, 138)) := fun d => x_fl (e := 3) h10
      have x3 : xFt 3 (tAt T n q) (am_up (am_up (am_up I1 5 10 (am_i 3)) 5 11 (am_i (tAt T n q))) 5 5 (am_i 4)) := fl_x (e := 3)
      have f10 : am_up (am_up (am_up I1 5 10 (am_i 3)) 5 11 (am_i (tAt T n q))) 5 5 (am_i 4) 5 10 = am_i 3 := x3.2.1
      have nf := fun d => x_nxF (d := d) (J := J) (R := R) x3.2.1 (by decide) (by decide)
      refine ⟨0, _, ?_, fun c => absurd c (by show ¬ ((3 : Nat) = 0); decide), ⟨fun c => absurd c (by show ¬ ((3 : Nat) = 0); decide), fun _ => ⟨x3, by show (3 : Nat) ≤ 9; decide⟩⟩, fun q j e => fl_f e⟩
      rw [sg_X10_newName_0]
      simp (disch := first | assumption | omega) only [rX hx, ly_csx, ly_cax, ly_cf, ly_kd, ly_ln, ↓Bool.cond_decide, cond_true, cond_false, ↓bI_p, ↓bV_p, ↓bL_p, bIJ_s, bVJ_s, bLJ_s, ↓am_let_s, Nat.blt, Nat.ble, Bool.and_true, Bool.true_and, Bool.and_self, Int.cast_ofNat_Int, am_i_add, am_i_sub, am_i_mul, am_ok_i, am_i_cl, n_lt, n_le, n_eq, n_lt0, n_le0, n_0lt, n_0le, n_eq0, ne_eq, ↓reduceIte, not_true_eq_false, not_false_eq_true, and_true, true_and, and_false, false_and, eq_T, eq_F, lt_T, lt_F, le_T, le_F, qn_T, qn_F, and_F, b01_T, b01_F, e_isIn, Int32.toInt_toInt64, am_i_toInt, am_l_toInt, Int.toNat_natCast, Int.reduceToNat, Int.reduceAdd, Int.reduceSub, Int.reduceMul, Int.reduceNeg, Nat.reduceAdd, Nat.reduceMul, Nat.add_zero, Nat.mul_zero, Nat.zero_add, am_zb0, am_zb1, h2, rC hx hc, a1, h10, h9, nm', b01_t q2, h4, fl, sg_X10_newName_49, f10, nf]
    · have ek : aK T n q X = (0, tE T n q) := by unfold aK; rw [rS_0 q1, if_neg q2, (tL_b q1).2.2.2]
      obtain ⟨I2, b1, b2, b3, b4⟩ := x_go (d := d) (J := J) hx hT hq h (by omega)
      rw [ek]
      refine ⟨pk5 (tL T n q), I2, ?_, fun _ => rfl, ⟨fun _ => ⟨b2, (tE_b (T := T) hq).2.1, by rw [b3]; exact h11⟩, fun c => absurd rfl c⟩, b4⟩
      rw [sg_X10_newName_0]
      simp (disch := first | assumption | omega) only [rX hx, ly_csx, ly_cax, ly_cf, ly_kd, ly_ln, ↓Bool.cond_decide, cond_true, cond_false, ↓bI_p, ↓bV_p, ↓bL_p, bIJ_s, bVJ_s, bLJ_s, ↓am_let_s, Nat.blt, Nat.ble, Bool.and_true, Bool.true_and, Bool.and_self, Int.cast_ofNat_Int, am_i_add, am_i_sub, am_i_mul, am_ok_i, am_i_cl, n_lt, n_le, n_eq, n_lt0, n_le0, n_0lt, n_0le, n_eq0, ne_eq, ↓reduceIte, not_true_eq_false, not_false_eq_true, and_true, true_and, and_false, false_and, eq_T, eq_F, lt_T, lt_F, le_T, le_F, qn_T, qn_F, and_F, b01_T, b01_F, e_isIn, Int32.toInt_toInt64, am_i_toInt, am_l_toInt, Int.toNat_natCast, Int.reduceToNat, Int.reduceAdd, Int.reduceSub, Int.reduceMul, Int.reduceNeg, Nat.reduceAdd, Nat.reduceMul, Nat.add_zero, Nat.mul_zero, Nat.zero_add, am_zb0, am_zb1, h2, rC hx hc, a1, h10, h9, nm', b01_f q2, sg_X10_newName_49, b1]
  · have ek : aK T n q X = aM T n q := by unfold aK; rw [rS_n q1]
    have b := aM_b (T := T) hq
    have x3 := a3 q1
    have f10 := x3.2.1
    have f10' : (I1 5 10 = 0) = False := eq_false (by rw [f10]; exact i5_n q1 (by omega))
    have nf := fun d => x_nxF (d := d) (J := J) (R := R) f10 q1 (by omega)
    rw [ek]
    refine ⟨0, I1, ?_, fun c => absurd c q1, ⟨fun c => absurd c q1, fun _ => ⟨x3, by omega⟩⟩, a4⟩
    rw [sg_X10_newName_0]
    simp (disch := first | assumption | omega) only [rX hx, ly_csx, ly_cax, ly_cf, ly_kd, ly_ln, ↓Bool.cond_decide, cond_true, cond_false, ↓bI_p, ↓bV_p, ↓bL_p, bIJ_s, bVJ_s, bLJ_s, ↓am_let_s, Nat.blt, Nat.ble, Bool.and_true, Bool.true_and, Bool.and_self, Int.cast_ofNat_Int, am_i_add, am_i_sub, am_i_mul, am_ok_i, am_i_cl, n_lt, n_le, n_eq, n_lt0, n_le0, n_0lt, n_0le, n_eq0, ne_eq, ↓reduceIte, not_true_eq_false, not_false_eq_true, and_true, true_and, and_false, false_and, eq_T, eq_F, lt_T, lt_F, le_T, le_F, qn_T, qn_F, and_F, b01_T, b01_F, e_isIn, Int32.toInt_toInt64, am_i_toInt, am_l_toInt, Int.toNat_natCast, Int.reduceToNat, Int.reduceAdd, Int.reduceSub, Int.reduceMul, Int.reduceNeg, Nat.reduceAdd, Nat.reduceMul, Nat.add_zero, Nat.mul_zero, Nat.zero_add, am_zb0, am_zb1, h2, rC hx hc, a1, f10', sg_X10_newName_49, nf]
end XCH
