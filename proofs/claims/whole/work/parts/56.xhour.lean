/-! ===== an hour of the class ===== -/
def keptX (f ring : Nat → Int32) (L : List ent) : Prop := f 67 = am_i L.length ∧ ∀ k, k < min 40 L.length → ∀ e, L[L.length - min 40 L.length + k]? = some e → ring ((L.length - min 40 L.length + k) % 256) = am_i (16 * e.1 + 2 * e.2.1 + e.2.2 : Nat)
def entOK (e : ent) : Prop := e.1 ≤ 999 ∧ e.2.1 < 6 ∧ e.2.2 ≤ 1
theorem kept_L {f ring g : Nat → Int32} {K : Nat} (h : keptR f ring g K) : ∃ L : List ent, L.length = K ∧ (∀ e ∈ L, entOK e) ∧ keptX f ring L ∧ keptG g L := by
  obtain ⟨h1, h2, h3⟩ := h
  have h3' : ∀ k, ∃ e : ent, entOK e ∧ (k < min 40 K → ring ((K - min 40 K + k) % 256) = am_i (16 * e.1 + 2 * e.2.1 + e.2.2 : Nat) ∧ g (68 + 3 * k) = am_i e.1 ∧ g (69 + 3 * k) = am_i e.2.1 ∧ g (70 + 3 * k) = am_i e.2.2) := fun k => by
    by_cases q : k < min 40 K
    · obtain ⟨a, b, c, q1, q2, q3, q4, q5, q6, q7⟩ := h3 k q
      exact ⟨(a, b, c), ⟨q1, q2, q3⟩, fun _ => ⟨q4, q5, q6, q7⟩⟩
    · exact ⟨(0, 0, 0), ⟨by decide, by decide, by decide⟩, fun e => absurd e q⟩
  obtain ⟨F, hF⟩ := Classical.axiomOfChoice h3'
  have hl : ((List.range K).map (fun i => F (i - (K - min 40 K)))).length = K := by simp
  have hg : ∀ k e, k < min 40 K → ((List.range K).map (fun i => F (i - (K - min 40 K))))[K - min 40 K + k]? = some e → e = F k := fun k e hk he => by
    rw [List.getElem?_map, List.getElem?_range (by omega)] at he
    have he' : F (K - min 40 K + k - (K - min 40 K)) = e := by injection he
    rw [← he', show K - min 40 K + k - (K - min 40 K) = k by omega]
  refine ⟨(List.range K).map (fun i => F (i - (K - min 40 K))), hl, fun e he => ?_, ⟨by rw [hl]; exact h1, fun k hk e he => ?_⟩, ⟨by rw [hl]; exact h2, fun k hk e he => ?_⟩⟩
  · obtain ⟨i, -, hi⟩ := List.mem_map.mp he
    rw [← hi]
    exact (hF _).1
  · rw [hl] at hk he ⊢
    rw [hg k e hk he]
    exact ((hF k).2 hk).1
  · rw [hl] at hk he
    rw [hg k e hk he]
    exact ((hF k).2 hk).2
theorem kept_R {f ring g : Nat → Int32} {L : List ent} (hO : ∀ e ∈ L, entOK e) (h1 : keptX f ring L) (h2 : keptG g L) : keptR f ring g L.length := by
  refine ⟨h1.1, h2.1, fun k hk => ?_⟩
  have he : L[L.length - min 40 L.length + k]? = some (L[L.length - min 40 L.length + k]'(by omega)) := List.getElem?_eq_getElem (by omega)
  have hm := hO _ (List.getElem_mem (l := L) (n := L.length - min 40 L.length + k) (by omega))
  have q2 := h2.2 k hk _ he
  exact ⟨_, _, _, hm.1, hm.2.1, hm.2.2, h1.2 k hk _ he, q2.1, q2.2.1, q2.2.2⟩
theorem or_ent {h b w : Nat} (hb : b < 6) (hw : w ≤ 1) : (h * 2 ^ 4 ||| b * 2 ^ 1) ||| w = 16 * h + 2 * b + w := by
  have e1 := Nat.two_pow_add_eq_or_of_lt (i := 4) (b := b * 2 ^ 1) (by omega) h
  have e2 := Nat.two_pow_add_eq_or_of_lt (i := 1) (b := w) (by omega) (8 * h + b)
  rw [Nat.mul_comm h, ← e1, show 2 ^ 4 * h + b * 2 ^ 1 = 2 ^ 1 * (8 * h + b) by omega, ← e2]
  omega
section XHOUR
variable {d : Nat} {J : tJ} {R0 : tR} {c last wd nb : Nat} {nt wf : Nat → Nat} {fm : Nat → List tok} {s : Nat → bt} {u h : Nat}
theorem x_add {I : tI} {R : tR} {L : List ent} {b w : Nat} (hx : st_Rx R) (hb : b < 6) (hw : w ≤ 1) (hh : h ≤ 999) (hL : L.length ≤ 10000) (e66 : I 31 66 = am_i h) (hK : keptX (I 31) (I 32) L) : Wp (fun r M => ∃ I', r = none ∧ M = (I', J, R, 138) ∧ (∀ q k, ¬ (q = 31 ∧ k = 67) → ¬ (q = 32 ∧ k = L.length % 256) → I' q k = I q k) ∧ keptX (I' 31) (I' 32) (L ++ [(h, b, w)])) (am_E (d + 1) 158 0 [(0, .ref 3), (1, .int (am_i b)), (2, .int (am_i w))] [] (I, J, R, 138)) := by
  obtain ⟨k1, k2⟩ := hK
  have e1 : am_i (L.length : Int) &&& am_i 255 = am_i ((L.length % 256 : Nat) : Int) := s_2 L.length 8
  have e2 : ((am_i (h : Int) <<< (am_i 4 &&& 31)) ||| (am_i (b : Int) <<< (am_i 1 &&& 31))) ||| am_i (w : Int) = am_i ((16 * h + 2 * b + w : Nat) : Int) := by
    have a1 : am_i 4 &&& 31 = am_i ((4 : Nat) : Int) := s_31 (by decide)
    have a2 : am_i 1 &&& 31 = am_i ((1 : Nat) : Int) := s_31 (by decide)
    rw [a1, a2, s_shl (by decide), s_shl (by decide), s_or, s_or, or_ent hb hw]
  have hmod : L.length % 256 < 256 := Nat.mod_lt _ (by decide)
  rw [sg_X11_addKept_0]
  simp (disch := first | assumption | omega) only [↓Bool.cond_decide, cond_true, cond_false, ↓am_let_s, ↓bI_p, bIJ_s, ↓bV_p, bVJ_s, ↓bL_p, bLJ_s, ly_cf, Bool.and_self, Bool.and_true, ly_csx, ly_cax, rX hx]
  have c67 : (am_i 67).toNatClampNeg = 67 := by decide
  have c66 : (am_i 66).toNatClampNeg = 66 := by decide
  have o67 : am_ok (am_i 67) 68 = true := by decide
  have o66 : am_ok (am_i 66) 68 = true := by decide
  have om : am_ok (am_i ((L.length % 256 : Nat) : Int)) 256 = true := am_ok_i (by omega) (by omega) (by omega)
  have cm : (am_i ((L.length % 256 : Nat) : Int)).toNatClampNeg = L.length % 256 := by rw [am_i_cl (by omega) (by omega)]; omega
  simp (disch := first | assumption | omega) only [↓Bool.cond_decide, cond_true, cond_false, ↓am_let_s, ↓bI_p, bIJ_s, ↓bV_p, bVJ_s, ↓bL_p, bLJ_s, ly_cf, Bool.and_self, Bool.and_true, c67, c66, o67, o66, k1, e1, e66, ↓e2, om, cm, am_up_o, am_i_add, am_i_s]
  refine Wp_r ⟨_, rfl, rfl, fun q k a1 a2 => ?_, ?_, fun k hk e he => ?_⟩
  · rw [am_up_o a1, am_up_o a2]
  · rw [am_up_e]
    congr 1
    simp
  · have m3 : (L ++ [(h, b, w)]).length = L.length + 1 := by simp
    rw [m3] at hk he ⊢
    rw [am_up_o (by omega)]
    by_cases c : L.length + 1 - min 40 (L.length + 1) + k = L.length
    · rw [c] at he ⊢
      rw [List.getElem?_append_right (Nat.le_refl _), Nat.sub_self] at he
      have he' : (h, b, w) = e := by injection he
      subst he'
      rw [am_up_e]
    · rw [List.getElem?_append_left (by omega)] at he
      rw [am_up_o (by omega)]
      by_cases c2 : L.length < 40
      · have := k2 k (by omega) e (by rw [show L.length - min 40 L.length + k = L.length + 1 - min 40 (L.length + 1) + k by omega]; exact he)
        rw [show L.length + 1 - min 40 (L.length + 1) + k = L.length - min 40 L.length + k by omega]
        exact this
      · have := k2 (k + 1) (by omega) e (by rw [show L.length - min 40 L.length + (k + 1) = L.length + 1 - min 40 (L.length + 1) + k by omega]; exact he)
        rw [show L.length + 1 - min 40 (L.length + 1) + k = L.length - min 40 L.length + (k + 1) by omega]
        exact this
theorem x_add0 {I : tI} {R : tR} {L : List ent} {b : Nat} (hx : st_Rx R) (hb : b < 6) (hh : h ≤ 999) (hL : L.length ≤ 10000) (e66 : I 31 66 = am_i h) (hK : keptX (I 31) (I 32) L) : Wp (fun r M => ∃ I', r = none ∧ M = (I', J, R, 138) ∧ (∀ q k, ¬ (q = 31 ∧ k = 67) → ¬ (q = 32 ∧ k = L.length % 256) → I' q k = I q k) ∧ keptX (I' 31) (I' 32) (L ++ [(h, b, 0)])) (am_E (d + 1) 158 0 [(0, .ref 3), (1, .int (am_i b)), (2, .int (am_i 0))] [] (I, J, R, 138)) := x_add (w := 0) hx hb (by omega) hh hL e66 hK
theorem x_add1 {I : tI} {R : tR} {L : List ent} {b : Nat} (hx : st_Rx R) (hb : b < 6) (hh : h ≤ 999) (hL : L.length ≤ 10000) (e66 : I 31 66 = am_i h) (hK : keptX (I 31) (I 32) L) : Wp (fun r M => ∃ I', r = none ∧ M = (I', J, R, 138) ∧ (∀ q k, ¬ (q = 31 ∧ k = 67) → ¬ (q = 32 ∧ k = L.length % 256) → I' q k = I q k) ∧ keptX (I' 31) (I' 32) (L ++ [(h, b, 1)])) (am_E (d + 1) 158 0 [(0, .ref 3), (1, .int (am_i b)), (2, .int (am_i 1))] [] (I, J, R, 138)) := x_add (w := 1) hx hb (by omega) hh hL e66 hK
theorem x_store {I : tI} {R : tR} {b n : Nat} {x : bt} (hx : st_Rx R) (hb : b < 6) (hsu : x.su ≤ 1) (hH : hullR 35 I n x) : Wp (fun r M => ∃ I', r = none ∧ M = (I', J, R, 138) ∧ I' 31 (11 * b) = am_i x.mi ∧ I' 31 (11 * b + 1) = am_i x.ti ∧ I' 31 (11 * b + 2) = am_i x.ro ∧ I' 31 (11 * b + 3) = am_i x.su ∧ I' 31 (11 * b + 4) = am_i x.pl ∧ ∀ q k, ¬ (q = 31 ∧ 11 * b ≤ k ∧ k ≤ 11 * b + 4) → I' q k = I q k) (am_E (d + 1) 38 0 [(0, .ref 35), (1, .ref 31), (2, .int (am_i b))] [] (I, J, R, 138)) := by
  obtain ⟨h2, h3, h4, h5, h6, -⟩ := hH
  have e0 : am_i (b : Int) * am_i 11 = am_i ((11 * b : Nat) : Int) := by rw [am_i_mul]; congr 1; omega
  have n0 : (((11 * b : Nat) : Int) + 0).toNat = 11 * b := by omega
  have n1 : (((11 * b : Nat) : Int) + 1).toNat = 11 * b + 1 := by omega
  have n2 : (((11 * b : Nat) : Int) + 2).toNat = 11 * b + 2 := by omega
  have n3 : (((11 * b : Nat) : Int) + 3).toNat = 11 * b + 3 := by omega
  have n4 : (((11 * b : Nat) : Int) + 4).toNat = 11 * b + 4 := by omega
  have fin : ∀ su : Nat, x.su = su → Wp (fun r M => ∃ I', r = none ∧ M = (I', J, R, 138) ∧ I' 31 (11 * b) = am_i x.mi ∧ I' 31 (11 * b + 1) = am_i x.ti ∧ I' 31 (11 * b + 2) = am_i x.ro ∧ I' 31 (11 * b + 3) = am_i x.su ∧ I' 31 (11 * b + 4) = am_i x.pl ∧ ∀ q k, ¬ (q = 31 ∧ 11 * b ≤ k ∧ k ≤ 11 * b + 4) → I' q k = I q k) (some (none, (am_up (am_up (am_up (am_up (am_up I 31 (11 * b) (am_i x.mi)) 31 (11 * b + 1) (am_i x.ti)) 31 (11 * b + 2) (am_i x.ro)) 31 (11 * b + 3) (am_i su)) 31 (11 * b + 4) (am_i x.pl), J, R, 138)) : am_R) := by
    intro su hsu
    refine Wp_r ⟨_, rfl, rfl, ?_, ?_, ?_, ?_, am_up_e, fun q k a => ?_⟩
    · rw [am_up_o (by omega), am_up_o (by omega), am_up_o (by omega), am_up_o (by omega), am_up_e]
    · rw [am_up_o (by omega), am_up_o (by omega), am_up_o (by omega), am_up_e]
    · rw [am_up_o (by omega), am_up_o (by omega), am_up_e]
    · rw [am_up_o (by omega), am_up_e, hsu]
    · rw [am_up_o (by omega), am_up_o (by omega), am_up_o (by omega), am_up_o (by omega), am_up_o (by omega)]
  rw [sg_X5_store_0]
  by_cases q : x.su = 0
  · have h5' : I 35 5 = am_i 0 := by rw [h5, q]; rfl
    simp (disch := first | assumption | omega) only [am_i_add, am_i_sub, am_i_mul, am_ok_i, am_i_cl, n_lt, n_le, n_eq, n_lt0, n_le0, n_0lt, n_0le, n_eq0, ne_eq, ↓reduceIte, not_true_eq_false, not_false_eq_true, and_true, true_and, and_false, false_and, eq_T, eq_F, lt_T, lt_F, le_T, le_F, qn_T, qn_F, and_F, b01_T, b01_F, e_isIn, Int32.toInt_toInt64, am_i_toInt, am_l_toInt, Int.toNat_natCast, Int.reduceToNat, Int.reduceAdd, Int.reduceSub, Int.reduceMul, Int.reduceNeg, Nat.reduceAdd, Nat.reduceMul, Nat.add_zero, Nat.mul_zero, Nat.zero_add, am_zb0, am_zb1, ↓Bool.cond_decide, cond_true, cond_false, ↓am_let_s, ↓bI_p, bIJ_s, ↓bV_p, bVJ_s, ↓bL_p, bLJ_s, ly_cf, Bool.and_self, Bool.and_true, ly_cax, e0, n0, n1, n2, n3, n4, am_up_o, h2, h3, h4, h5', h6]
    exact fin 0 q
  · have q1 : x.su = 1 := by omega
    have h5' : I 35 5 = am_i 1 := by rw [h5, q1]; rfl
    simp (disch := first | assumption | omega) only [am_i_add, am_i_sub, am_i_mul, am_ok_i, am_i_cl, n_lt, n_le, n_eq, n_lt0, n_le0, n_0lt, n_0le, n_eq0, ne_eq, ↓reduceIte, not_true_eq_false, not_false_eq_true, and_true, true_and, and_false, false_and, eq_T, eq_F, lt_T, lt_F, le_T, le_F, qn_T, qn_F, and_F, b01_T, b01_F, e_isIn, Int32.toInt_toInt64, am_i_toInt, am_l_toInt, Int.toNat_natCast, Int.reduceToNat, Int.reduceAdd, Int.reduceSub, Int.reduceMul, Int.reduceNeg, Nat.reduceAdd, Nat.reduceMul, Nat.add_zero, Nat.mul_zero, Nat.zero_add, am_zb0, am_zb1, ↓Bool.cond_decide, cond_true, cond_false, ↓am_let_s, ↓bI_p, bIJ_s, ↓bV_p, bVJ_s, ↓bL_p, bLJ_s, ly_cf, Bool.and_self, Bool.and_true, ly_cax, e0, n0, n1, n2, n3, n4, am_up_o, h2, h3, h4, h5', h6]
    exact fin 1 q1
end XHOUR
