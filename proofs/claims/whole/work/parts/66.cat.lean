/-! ===== cat ===== -/
def siF (last : Nat) (wf : Nat → Nat) (fm : Nat → List tok) (u n : Nat) : Nat → Nat → bt → Int
  | 0, _, _ => -1
  | m + 1, k, x => if ouS last n x then (if (paS last wf fm u n x).su = 1 then (k : Int) else siF last wf fm u n m (k + 1) (paS last wf fm u n x)) else -1
def caX (last : Nat) (wf : Nat → Nat) (fm : Nat → List tok) (nt : Nat → Nat) (u k : Nat) (s : Nat → bt) : Nat → Nat → Nat → Int → Nat × Int
  | 0, _, lim, who => (lim, who)
  | n + 1, i, lim, who => if siF last wf fm u (nt i) lim k (s i) = -1 then caX last wf fm nt u k s n (i + 1) lim who else caX last wf fm nt u k s n (i + 1) (siF last wf fm u (nt i) lim k (s i) - k).toNat i
def caM (last nb : Nat) (wf : Nat → Nat) (fm : Nat → List tok) (nt : Nat → Nat) (u : Nat) : Nat → Nat → (Nat → bt) → Int × Int
  | 0, _, _ => (-1, -1)
  | m + 1, k, s => if skF (skB last wf fm u nt s) 0 nb (-1) = -1 then caM last nb wf fm nt u m (k + 1) (hrS last wf fm nt u s) else ((k : Int), skF (skB last wf fm u nt s) 0 nb (-1))
section CAT
variable {d : Nat} {J : tJ} {R0 R : tR} {c last wd nb n : Nat} {nt wf : Nat → Nat} {fm : Nat → List tok} {u : Nat} {s : Nat → bt}
theorem siF_b : ∀ (m k : Nat) (x : bt), siF last wf fm u n m k x = -1 ∨ ((k : Int) ≤ siF last wf fm u n m k x ∧ siF last wf fm u n m k x < k + m)
  | 0, k, x => Or.inl rfl
  | m + 1, k, x => by
    by_cases q : ouS last n x
    · by_cases q2 : (paS last wf fm u n x).su = 1
      · have e : siF last wf fm u n (m + 1) k x = k := by
          show (if ouS last n x then _ else _) = _
          rw [if_pos q, if_pos q2]
        rw [e]; right; omega
      · have e : siF last wf fm u n (m + 1) k x = siF last wf fm u n m (k + 1) (paS last wf fm u n x) := by
          show (if ouS last n x then _ else _) = _
          rw [if_pos q, if_neg q2]
        rw [e]
        rcases siF_b m (k + 1) (paS last wf fm u n x) with h | h
        · exact Or.inl h
        · right; omega
    · exact Or.inl (if_neg q)
theorem siF_n : ∀ (m k : Nat) {x : bt}, ¬ ouS last n x → siF last wf fm u n m k x = -1
  | 0, _, _, _ => rfl
  | _ + 1, _, _, h => if_neg h
theorem siF_s {m k : Nat} {x : bt} (h : ¬ (ouS last n x ∧ (paS last wf fm u n x).su = 1)) : siF last wf fm u n (m + 1) k x = siF last wf fm u n m (k + 1) (paS last wf fm u n x) := by
  by_cases q : ouS last n x
  · show (if ouS last n x then _ else _) = _
    rw [if_pos q, if_neg (fun e => h ⟨q, e⟩)]
  · have e : paS last wf fm u n x = x := by unfold paS; rw [if_neg q]
    rw [siF_n _ _ q, e, siF_n _ _ q]
theorem skF_k {p : Nat → Bool} : ∀ (n i : Nat) {sk : Int}, sk ≠ -1 → skF p i n sk = sk
  | 0, _, _, _ => rfl
  | n + 1, i, sk, h => by
    show skF p (i + 1) n (if sk = -1 ∧ p i = true then (i : Int) else sk) = sk
    rw [if_neg (fun e => h e.1)]
    exact skF_k n (i + 1) h
theorem caX_0 {k : Nat} : ∀ (n i : Nat) (who : Int), caX last wf fm nt u k s n i 0 who = (0, who)
  | 0, _, _ => rfl
  | n + 1, i, who => by
    show (if siF last wf fm u (nt i) 0 k (s i) = -1 then caX last wf fm nt u k s n (i + 1) 0 who else _) = _
    rw [if_pos (show siF last wf fm u (nt i) 0 k (s i) = -1 from rfl)]
    exact caX_0 n (i + 1) who
/-- one sinks in this hour -/
theorem caX_f {k : Nat} : ∀ (n i l : Nat) (who : Int), skF (skB last wf fm u nt s) i n (-1) ≠ -1 → caX last wf fm nt u k s n i (l + 1) who = (0, skF (skB last wf fm u nt s) i n (-1))
  | 0, _, _, _, h => absurd rfl h
  | n + 1, i, l, who, h => by
    have h' : skF (skB last wf fm u nt s) (i + 1) n (if (-1 : Int) = -1 ∧ skB last wf fm u nt s i = true then (i : Int) else -1) ≠ -1 := h
    show (if siF last wf fm u (nt i) (l + 1) k (s i) = -1 then caX last wf fm nt u k s n (i + 1) (l + 1) who else caX last wf fm nt u k s n (i + 1) (siF last wf fm u (nt i) (l + 1) k (s i) - k).toNat i) = (0, skF (skB last wf fm u nt s) (i + 1) n (if (-1 : Int) = -1 ∧ skB last wf fm u nt s i = true then (i : Int) else -1))
    by_cases q : skB last wf fm u nt s i = true
    · have qq := of_decide_eq_true q
      have e : siF last wf fm u (nt i) (l + 1) k (s i) = k := by
        show (if ouS last (nt i) (s i) then _ else _) = _
        rw [if_pos qq.1, if_pos qq.2]
      have e2 : (if (-1 : Int) = -1 ∧ skB last wf fm u nt s i = true then (i : Int) else -1) = i := if_pos ⟨rfl, q⟩
      rw [e2, skF_k _ _ (by omega), e, if_neg (by omega), show ((k : Int) - k).toNat = 0 by omega]
      exact caX_0 n (i + 1) i
    · have e2 : (if (-1 : Int) = -1 ∧ skB last wf fm u nt s i = true then (i : Int) else -1) = -1 := if_neg (fun e => q e.2)
      rw [e2] at h' ⊢
      have qq : ¬ (ouS last (nt i) (s i) ∧ (paS last wf fm u (nt i) (s i)).su = 1) := fun e => q (decide_eq_true e)
      rw [siF_s qq]
      rcases siF_b (last := last) (wf := wf) (fm := fm) (u := u) (n := nt i) l (k + 1) (paS last wf fm u (nt i) (s i)) with e | e
      · rw [if_pos e]
        exact caX_f n (i + 1) l who h'
      · rw [if_neg (by omega)]
        obtain ⟨l', hl'⟩ : ∃ l', (siF last wf fm u (nt i) l (k + 1) (paS last wf fm u (nt i) (s i)) - k).toNat = l' + 1 := ⟨(siF last wf fm u (nt i) l (k + 1) (paS last wf fm u (nt i) (s i)) - k).toNat - 1, by omega⟩
        rw [hl']
        exact caX_f n (i + 1) l' i h'
/-- none sinks in this hour -/
theorem caX_n {k : Nat} : ∀ (n i l : Nat) (who : Int), skF (skB last wf fm u nt s) i n (-1) = -1 → caX last wf fm nt u k s n i (l + 1) who = ((caX last wf fm nt u (k + 1) (hrS last wf fm nt u s) n i l who).1 + 1, (caX last wf fm nt u (k + 1) (hrS last wf fm nt u s) n i l who).2)
  | 0, _, _, _, _ => rfl
  | n + 1, i, l, who, h => by
    have h' : skF (skB last wf fm u nt s) (i + 1) n (if (-1 : Int) = -1 ∧ skB last wf fm u nt s i = true then (i : Int) else -1) = -1 := h
    have q : ¬ skB last wf fm u nt s i = true := fun q => by
      rw [if_pos ⟨rfl, q⟩, skF_k _ _ (by omega)] at h'
      omega
    rw [if_neg (fun e => q e.2)] at h'
    have qq : ¬ (ouS last (nt i) (s i) ∧ (paS last wf fm u (nt i) (s i)).su = 1) := fun e => q (decide_eq_true e)
    have e0 : caX last wf fm nt u (k + 1) (hrS last wf fm nt u s) (n + 1) i l who = (if siF last wf fm u (nt i) l (k + 1) (paS last wf fm u (nt i) (s i)) = -1 then caX last wf fm nt u (k + 1) (hrS last wf fm nt u s) n (i + 1) l who else caX last wf fm nt u (k + 1) (hrS last wf fm nt u s) n (i + 1) (siF last wf fm u (nt i) l (k + 1) (paS last wf fm u (nt i) (s i)) - ((k + 1 : Nat) : Int)).toNat i) := rfl
    have e1 : caX last wf fm nt u k s (n + 1) i (l + 1) who = (if siF last wf fm u (nt i) (l + 1) k (s i) = -1 then caX last wf fm nt u k s n (i + 1) (l + 1) who else caX last wf fm nt u k s n (i + 1) (siF last wf fm u (nt i) (l + 1) k (s i) - k).toNat i) := rfl
    rw [e0, e1, siF_s qq]
    rcases siF_b (last := last) (wf := wf) (fm := fm) (u := u) (n := nt i) l (k + 1) (paS last wf fm u (nt i) (s i)) with e | e
    · rw [if_pos e, if_pos e]
      exact caX_n n (i + 1) l who h'
    · rw [if_neg (by omega), if_neg (by omega), show (siF last wf fm u (nt i) l (k + 1) (paS last wf fm u (nt i) (s i)) - (k : Int)).toNat = (siF last wf fm u (nt i) l (k + 1) (paS last wf fm u (nt i) (s i)) - ((k + 1 : Nat) : Int)).toNat + 1 by omega]
      exact caX_n n (i + 1) _ i h'
theorem ca_eq : ∀ (m k : Nat) (s : Nat → bt), caM last nb wf fm nt u m k s = (if (caX last wf fm nt u k s nb 0 m (-1)).2 = -1 then (-1, -1) else (((k + (caX last wf fm nt u k s nb 0 m (-1)).1 : Nat) : Int), (caX last wf fm nt u k s nb 0 m (-1)).2))
  | 0, k, s => by
    rw [caX_0]
    rfl
  | m + 1, k, s => by
    by_cases q : skF (skB last wf fm u nt s) 0 nb (-1) = -1
    · have e : caM last nb wf fm nt u (m + 1) k s = caM last nb wf fm nt u m (k + 1) (hrS last wf fm nt u s) := if_pos q
      rw [e, ca_eq m (k + 1), caX_n nb 0 m (-1) q]
      show _ = (if (caX last wf fm nt u (k + 1) (hrS last wf fm nt u s) nb 0 m (-1)).2 = -1 then (-1, -1) else (((k + ((caX last wf fm nt u (k + 1) (hrS last wf fm nt u s) nb 0 m (-1)).1 + 1) : Nat) : Int), (caX last wf fm nt u (k + 1) (hrS last wf fm nt u s) nb 0 m (-1)).2))
      rw [show k + ((caX last wf fm nt u (k + 1) (hrS last wf fm nt u s) nb 0 m (-1)).1 + 1) = k + 1 + (caX last wf fm nt u (k + 1) (hrS last wf fm nt u s) nb 0 m (-1)).1 by omega]
    · have e : caM last nb wf fm nt u (m + 1) k s = ((k : Int), skF (skB last wf fm u nt s) 0 nb (-1)) := if_neg q
      rw [e, caX_f nb 0 m (-1) q, if_neg q]
      rfl
theorem skF_b {p : Nat → Bool} : ∀ (n i : Nat) (sk : Int), (sk = -1 ∨ 0 ≤ sk ∧ sk < i + n) → skF p i n sk = -1 ∨ (0 ≤ skF p i n sk ∧ skF p i n sk < i + n)
  | 0, i, sk, h => by
    show sk = -1 ∨ 0 ≤ sk ∧ sk < _
    omega
  | n + 1, i, sk, h => by
    show skF p (i + 1) n _ = -1 ∨ 0 ≤ skF p (i + 1) n _ ∧ skF p (i + 1) n _ < _
    have := skF_b (p := p) n (i + 1) (if sk = -1 ∧ p i = true then (i : Int) else sk) (by split <;> omega)
    omega
theorem x_si {z : Nat} (hx : st_Rx R) (hc : c = 10 ∨ c = 20) (hR : R 35 1 = c) (hn : n ≤ 6) (hz : z ≤ 60) : ∀ (m k : Nat) (x : bt) (I : tI), k + m = z → cxX c last wd wf fm I → bOK last n x → hullR 35 I n x → Wp (fun r M => ∃ I', r = some (.int (am_i (siF last wf fm wd n m k x))) ∧ M = (I', J, R, 138) ∧ fr (hS 35) I I') (am_E (d + 7) 47 2 [(0, .ref 35), (1, .int (am_i z)), (2, .int (am_i k))] [] (I, J, R, 138))
  | 0, k, x, I, hk, hX, hO, hH => by
    rw [sg_X5_sinksIn_2]
    simp (disch := first | assumption | omega) only [am_i_add, am_i_sub, am_i_mul, am_ok_i, am_i_cl, n_lt, n_le, n_eq, n_lt0, n_le0, n_0lt, n_0le, n_eq0, ne_eq, ↓reduceIte, not_true_eq_false, not_false_eq_true, and_true, true_and, and_false, false_and, eq_T, eq_F, lt_T, lt_F, le_T, le_F, qn_T, qn_F, and_F, b01_T, b01_F, e_isIn, Int32.toInt_toInt64, am_i_toInt, am_l_toInt, Int.toNat_natCast, Int.reduceToNat, Int.reduceAdd, Int.reduceSub, Int.reduceMul, Int.reduceNeg, Nat.reduceAdd, Nat.reduceMul, Nat.add_zero, Nat.mul_zero, Nat.zero_add, am_zb0, am_zb1, ↓Bool.cond_decide, cond_true, cond_false, ↓am_let_s, ↓bI_p, bIJ_s, ↓bV_p, bVJ_s, ↓bL_p, bLJ_s, ly_cf, Bool.and_self, Bool.and_true]
    exact Wp_r ⟨I, rfl, rfl, fr_r _ _⟩
  | m + 1, k, x, I, hk, hX, hO, hH => by
    have i4 := hX.2.2.1
    rw [sg_X5_sinksIn_2]
    simp (disch := first | assumption | omega) only [rX hx, ly_csx, ly_cax, ly_cf, ly_kd, ly_ln, ↓Bool.cond_decide, cond_true, cond_false, ↓bI_p, ↓bV_p, ↓bL_p, bIJ_s, bVJ_s, bLJ_s, ↓am_let_s, Nat.blt, Nat.ble, Bool.and_true, Bool.true_and, Bool.and_self, Int.cast_ofNat_Int, am_i_add, am_i_sub, am_i_mul, am_ok_i, am_i_cl, n_lt, n_le, n_eq, n_lt0, n_le0, n_0lt, n_0le, n_eq0, ne_eq, ↓reduceIte, not_true_eq_false, not_false_eq_true, and_true, true_and, and_false, false_and, eq_T, eq_F, lt_T, lt_F, le_T, le_F, qn_T, qn_F, and_F, b01_T, b01_F, e_isIn, Int32.toInt_toInt64, am_i_toInt, am_l_toInt, Int.toNat_natCast, Int.reduceToNat, Int.reduceAdd, Int.reduceSub, Int.reduceMul, Int.reduceNeg, Nat.reduceAdd, Nat.reduceMul, Nat.add_zero, Nat.mul_zero, Nat.zero_add, am_zb0, am_zb1, rC hx hc, hR, i4]
    refine Wp_I (x_pass (o := 35) hx (Or.inl rfl) hc hR hX hn hO hH hX.2.2.2.1) ?_
    rintro _ _ ⟨I', rfl, rfl, hf, hH'⟩
    refine ⟨_, rfl, ?_⟩
    by_cases qo : ouS last n x
    · have hno : noS last n x = x.sc x.pl := if_pos qo
      have hsc := hO.2.2.2.2.2.2 x.pl (by have := hO.2.2.2.2.1; have := qo.1; omega)
      have h5 := hH'.2.2.2.1
      by_cases qs : (paS last wf fm wd n x).su = 1
      · have e : siF last wf fm wd n (m + 1) k x = k := by
          show (if ouS last n x then _ else _) = _
          rw [if_pos qo, if_pos qs]
        rw [qs] at h5
        simp (disch := first | assumption | omega) only [am_i_add, am_i_sub, am_i_mul, am_ok_i, am_i_cl, n_lt, n_le, n_eq, n_lt0, n_le0, n_0lt, n_0le, n_eq0, ne_eq, ↓reduceIte, not_true_eq_false, not_false_eq_true, and_true, true_and, and_false, false_and, eq_T, eq_F, lt_T, lt_F, le_T, le_F, qn_T, qn_F, and_F, b01_T, b01_F, e_isIn, Int32.toInt_toInt64, am_i_toInt, am_l_toInt, Int.toNat_natCast, Int.reduceToNat, Int.reduceAdd, Int.reduceSub, Int.reduceMul, Int.reduceNeg, Nat.reduceAdd, Nat.reduceMul, Nat.add_zero, Nat.mul_zero, Nat.zero_add, am_zb0, am_zb1, ↓Bool.cond_decide, cond_true, cond_false, ↓am_let_s, ↓bI_p, bIJ_s, ↓bV_p, bVJ_s, ↓bL_p, bLJ_s, ly_cf, Bool.and_self, Bool.and_true, hno, h5]
        exact Wp_r ⟨I', by rw [e], rfl, hf⟩
      · have e : siF last wf fm wd n (m + 1) k x = siF last wf fm wd n m (k + 1) (paS last wf fm wd n x) := siF_s (fun e => qs e.2)
        have qs0 : (paS last wf fm wd n x).su = 0 := by have := (paS_ok (wf := wf) (fm := fm) (u := wd) hO).2.2.2.1; omega
        rw [qs0] at h5
        simp (disch := first | assumption | omega) only [am_i_add, am_i_sub, am_i_mul, am_ok_i, am_i_cl, n_lt, n_le, n_eq, n_lt0, n_le0, n_0lt, n_0le, n_eq0, ne_eq, ↓reduceIte, not_true_eq_false, not_false_eq_true, and_true, true_and, and_false, false_and, eq_T, eq_F, lt_T, lt_F, le_T, le_F, qn_T, qn_F, and_F, b01_T, b01_F, e_isIn, Int32.toInt_toInt64, am_i_toInt, am_l_toInt, Int.toNat_natCast, Int.reduceToNat, Int.reduceAdd, Int.reduceSub, Int.reduceMul, Int.reduceNeg, Nat.reduceAdd, Nat.reduceMul, Nat.add_zero, Nat.mul_zero, Nat.zero_add, am_zb0, am_zb1, ↓Bool.cond_decide, cond_true, cond_false, ↓am_let_s, ↓bI_p, bIJ_s, ↓bV_p, bVJ_s, ↓bL_p, bLJ_s, ly_cf, Bool.and_self, Bool.and_true, hno, h5, am_i_s]
        rw [e]
        refine Wp_m (x_si hx hc hR hn hz m (k + 1) _ I' (by omega) (cxX_c hc (fun q k a1 a2 => hf q k (hS_f.mpr (by omega))) hX) (paS_ok hO) hH') ?_
        rintro _ _ ⟨I2, rfl, rfl, hf2⟩
        exact ⟨I2, rfl, rfl, fr_t hf hf2⟩
    · have hno : noS last n x = 8 := if_neg qo
      have e8 : am_i ((8 : Nat) : Int) = am_i 8 := rfl
      simp (disch := first | assumption | omega) only [am_i_add, am_i_sub, am_i_mul, am_ok_i, am_i_cl, n_lt, n_le, n_eq, n_lt0, n_le0, n_0lt, n_0le, n_eq0, ne_eq, ↓reduceIte, not_true_eq_false, not_false_eq_true, and_true, true_and, and_false, false_and, eq_T, eq_F, lt_T, lt_F, le_T, le_F, qn_T, qn_F, and_F, b01_T, b01_F, e_isIn, Int32.toInt_toInt64, am_i_toInt, am_l_toInt, Int.toNat_natCast, Int.reduceToNat, Int.reduceAdd, Int.reduceSub, Int.reduceMul, Int.reduceNeg, Nat.reduceAdd, Nat.reduceMul, Nat.add_zero, Nat.mul_zero, Nat.zero_add, am_zb0, am_zb1, ↓Bool.cond_decide, cond_true, cond_false, ↓am_let_s, ↓bI_p, bIJ_s, ↓bV_p, bVJ_s, ↓bL_p, bLJ_s, ly_cf, Bool.and_self, Bool.and_true, hno, e8]
      exact Wp_r ⟨I', by rw [siF_n _ _ qo], rfl, hf⟩
def caA (w : Int) (r : Nat × Int) : Int := if r.2 = -1 then -1 else if w = 0 then (r.1 : Int) else if w = 1 then r.2 else -1
theorem x_cat {I0 : tI} {w : Int} (hx0 : st_Rx R0) (h40 : R0 3 4 = c) (hc : c = 10 ∨ c = 20) (h6 : nb ≤ 6) (w1 : -2147483648 ≤ w) (w2 : w < 2147483648) (hX : 0 < nb → cxX c last wd wf fm I0) (hI1 : I0 c 1 = am_i nb) (hnt : ∀ b, b < nb → nt b ≤ 6 ∧ I0 (c + 4) b = am_i (nt b)) (hB : ∀ b, b < nb → bOK last (nt b) (s b) ∧ bX (I0 31) (11 * b) (nt b) (s b)) : ∀ (m i lim : Nat) (who : Int) (I : tI) (R : tR), i + m = nb → lim ≤ 60 → (who = -1 ∨ 0 ≤ who ∧ who < 6) → rR R0 R → (∀ q k, ¬ (35 ≤ q ∧ q ≤ 41) → I q k = I0 q k) → Wp (fun r M => ∃ I' R', r = some (.int (am_i (caA w (caX last wf fm nt wd 0 s m i lim who)))) ∧ M = (I', J, R', 138) ∧ rR R0 R' ∧ ∀ q k, ¬ (35 ≤ q ∧ q ≤ 41) → I' q k = I0 q k) (am_E (d + 8) 114 12 [(0, .ref 3), (1, .int (am_i w)), (2, .int (am_i lim)), (3, .int (am_i who)), (4, .int (am_i i))] [] (I, J, R, 138))
  | 0, i, lim, who, I, R, hi, hl, hw, hR, hI => by
    have hxR := rR_x hR hx0
    have h4R : R 3 4 = c := by rw [hR.1 _ _ (by omega)]; exact h40
    have e1 : I c 1 = am_i nb := by rw [hI _ _ (by omega)]; exact hI1
    rw [sg_X11_cat_12]
    show Wp (fun r M => ∃ I' R', r = some (.int (am_i (caA w (lim, who)))) ∧ _) _
    by_cases q : who = -1
    · simp (disch := first | assumption | omega) only [am_i_add, am_i_sub, am_i_mul, am_ok_i, am_i_cl, n_lt, n_le, n_eq, n_lt0, n_le0, n_0lt, n_0le, n_eq0, ne_eq, ↓reduceIte, not_true_eq_false, not_false_eq_true, and_true, true_and, and_false, false_and, eq_T, eq_F, lt_T, lt_F, le_T, le_F, qn_T, qn_F, and_F, b01_T, b01_F, e_isIn, Int32.toInt_toInt64, am_i_toInt, am_l_toInt, Int.toNat_natCast, Int.reduceToNat, Int.reduceAdd, Int.reduceSub, Int.reduceMul, Int.reduceNeg, Nat.reduceAdd, Nat.reduceMul, Nat.add_zero, Nat.mul_zero, Nat.zero_add, am_zb0, am_zb1, ↓Bool.cond_decide, cond_true, cond_false, ↓am_let_s, ↓bI_p, bIJ_s, ↓bV_p, bVJ_s, ↓bL_p, bLJ_s, ly_cf, Bool.and_self, Bool.and_true, rX hxR, h4R, rC hxR hc, e1]
      exact Wp_r ⟨I, R, by unfold caA; rw [if_pos q], rfl, hR, hI⟩
    · by_cases q0 : w = 0
      · simp (disch := first | assumption | omega) only [am_i_add, am_i_sub, am_i_mul, am_ok_i, am_i_cl, n_lt, n_le, n_eq, n_lt0, n_le0, n_0lt, n_0le, n_eq0, ne_eq, ↓reduceIte, not_true_eq_false, not_false_eq_true, and_true, true_and, and_false, false_and, eq_T, eq_F, lt_T, lt_F, le_T, le_F, qn_T, qn_F, and_F, b01_T, b01_F, e_isIn, Int32.toInt_toInt64, am_i_toInt, am_l_toInt, Int.toNat_natCast, Int.reduceToNat, Int.reduceAdd, Int.reduceSub, Int.reduceMul, Int.reduceNeg, Nat.reduceAdd, Nat.reduceMul, Nat.add_zero, Nat.mul_zero, Nat.zero_add, am_zb0, am_zb1, ↓Bool.cond_decide, cond_true, cond_false, ↓am_let_s, ↓bI_p, bIJ_s, ↓bV_p, bVJ_s, ↓bL_p, bLJ_s, ly_cf, Bool.and_self, Bool.and_true, rX hxR, h4R, rC hxR hc, e1]
        exact Wp_r ⟨I, R, by unfold caA; rw [if_neg q, if_pos q0], rfl, hR, hI⟩
      · by_cases q1 : w = 1
        · simp (disch := first | assumption | omega) only [am_i_add, am_i_sub, am_i_mul, am_ok_i, am_i_cl, n_lt, n_le, n_eq, n_lt0, n_le0, n_0lt, n_0le, n_eq0, ne_eq, ↓reduceIte, not_true_eq_false, not_false_eq_true, and_true, true_and, and_false, false_and, eq_T, eq_F, lt_T, lt_F, le_T, le_F, qn_T, qn_F, and_F, b01_T, b01_F, e_isIn, Int32.toInt_toInt64, am_i_toInt, am_l_toInt, Int.toNat_natCast, Int.reduceToNat, Int.reduceAdd, Int.reduceSub, Int.reduceMul, Int.reduceNeg, Nat.reduceAdd, Nat.reduceMul, Nat.add_zero, Nat.mul_zero, Nat.zero_add, am_zb0, am_zb1, ↓Bool.cond_decide, cond_true, cond_false, ↓am_let_s, ↓bI_p, bIJ_s, ↓bV_p, bVJ_s, ↓bL_p, bLJ_s, ly_cf, Bool.and_self, Bool.and_true, rX hxR, h4R, rC hxR hc, e1]
          exact Wp_r ⟨I, R, by unfold caA; rw [if_neg q, if_neg q0, if_pos q1], rfl, hR, hI⟩
        · simp (disch := first | assumption | omega) only [am_i_add, am_i_sub, am_i_mul, am_ok_i, am_i_cl, n_lt, n_le, n_eq, n_lt0, n_le0, n_0lt, n_0le, n_eq0, ne_eq, ↓reduceIte, not_true_eq_false, not_false_eq_true, and_true, true_and, and_false, false_and, eq_T, eq_F, lt_T, lt_F, le_T, le_F, qn_T, qn_F, and_F, b01_T, b01_F, e_isIn, Int32.toInt_toInt64, am_i_toInt, am_l_toInt, Int.toNat_natCast, Int.reduceToNat, Int.reduceAdd, Int.reduceSub, Int.reduceMul, Int.reduceNeg, Nat.reduceAdd, Nat.reduceMul, Nat.add_zero, Nat.mul_zero, Nat.zero_add, am_zb0, am_zb1, ↓Bool.cond_decide, cond_true, cond_false, ↓am_let_s, ↓bI_p, bIJ_s, ↓bV_p, bVJ_s, ↓bL_p, bLJ_s, ly_cf, Bool.and_self, Bool.and_true, rX hxR, h4R, rC hxR hc, e1]
          exact Wp_r ⟨I, R, by unfold caA; rw [if_neg q, if_neg q0, if_neg q1], rfl, hR, hI⟩
  | m + 1, i, lim, who, I, R, hi, hl, hw, hR, hI => by
    have hib : i < nb := by omega
    have hxR := rR_x hR hx0
    have h4R : R 3 4 = c := by rw [hR.1 _ _ (by omega)]; exact h40
    have e1 : I c 1 = am_i nb := by rw [hI _ _ (by omega)]; exact hI1
    obtain ⟨n6, n4⟩ := hnt i hib
    obtain ⟨hO, hBx⟩ := hB i hib
    rw [sg_X11_cat_12]
    simp (disch := first | assumption | omega) only [am_i_add, am_i_sub, am_i_mul, am_ok_i, am_i_cl, n_lt, n_le, n_eq, n_lt0, n_le0, n_0lt, n_0le, n_eq0, ne_eq, ↓reduceIte, not_true_eq_false, not_false_eq_true, and_true, true_and, and_false, false_and, eq_T, eq_F, lt_T, lt_F, le_T, le_F, qn_T, qn_F, and_F, b01_T, b01_F, e_isIn, Int32.toInt_toInt64, am_i_toInt, am_l_toInt, Int.toNat_natCast, Int.reduceToNat, Int.reduceAdd, Int.reduceSub, Int.reduceMul, Int.reduceNeg, Nat.reduceAdd, Nat.reduceMul, Nat.add_zero, Nat.mul_zero, Nat.zero_add, am_zb0, am_zb1, ↓Bool.cond_decide, cond_true, cond_false, ↓am_let_s, ↓bI_p, bIJ_s, ↓bV_p, bVJ_s, ↓bL_p, bLJ_s, ly_cf, Bool.and_self, Bool.and_true, rX hxR, h4R, rC hxR hc, e1]
    refine Wp_V (x_load (s := s i) (n := nt i) (b := i) hxR (Or.inl rfl) hc (by omega) (by rw [hI _ _ (by omega)]; exact n4) n6 hO.2.2.2.1 (by
      obtain ⟨v0, v1, v2, v3, v4, v5⟩ := hBx
      exact ⟨by rw [hI _ _ (by omega)]; exact v0, by rw [hI _ _ (by omega)]; exact v1, by rw [hI _ _ (by omega)]; exact v2, by rw [hI _ _ (by omega)]; exact v3, by rw [hI _ _ (by omega)]; exact v4, fun k hk => by rw [hI _ _ (by omega)]; exact v5 k hk⟩)) ?_
    rintro _ _ ⟨I1, rfl, rfl, hf1, hHu⟩
    refine ⟨rfl, ?_⟩
    have hR1 : rR R0 (am_up R 35 1 c) := rR_u hR hc (Or.inl rfl)
    have hx1 := rR_x hR1 hx0
    have g1 : ∀ q j, ¬ (35 ≤ q ∧ q ≤ 41) → I1 q j = I0 q j := fun q j e => by rw [hf1 q j (hS_f.mpr (by omega)), hI q j e]
    simp (disch := first | assumption | omega) only [am_i_add, am_i_sub, am_i_mul, am_ok_i, am_i_cl, n_lt, n_le, n_eq, n_lt0, n_le0, n_0lt, n_0le, n_eq0, ne_eq, ↓reduceIte, not_true_eq_false, not_false_eq_true, and_true, true_and, and_false, false_and, eq_T, eq_F, lt_T, lt_F, le_T, le_F, qn_T, qn_F, and_F, b01_T, b01_F, e_isIn, Int32.toInt_toInt64, am_i_toInt, am_l_toInt, Int.toNat_natCast, Int.reduceToNat, Int.reduceAdd, Int.reduceSub, Int.reduceMul, Int.reduceNeg, Nat.reduceAdd, Nat.reduceMul, Nat.add_zero, Nat.mul_zero, Nat.zero_add, am_zb0, am_zb1, ↓Bool.cond_decide, cond_true, cond_false, ↓am_let_s, ↓bI_p, bIJ_s, ↓bV_p, bVJ_s, ↓bL_p, bLJ_s, ly_cf, Bool.and_self, Bool.and_true, rX hx1]
    refine Wp_I (Wp_e (sg_X5_sinksIn_0 _ _ _ _) (x_si (d := d) (z := lim) hx1 hc am_up_e n6 hl lim 0 (s i) I1 (by omega) (cxX_c hc (fun q k a1 a2 => g1 q k (by omega)) (hX (by omega))) hO hHu)) ?_
    rintro _ _ ⟨I2, rfl, rfl, hf2⟩
    refine ⟨_, rfl, ?_⟩
    have g2 : ∀ q j, ¬ (35 ≤ q ∧ q ≤ 41) → I2 q j = I0 q j := fun q j e => by rw [hf2 q j (hS_f.mpr (by omega)), g1 q j e]
    have hb := siF_b (last := last) (wf := wf) (fm := fm) (u := wd) (n := nt i) lim 0 (s i)
    show Wp (fun r M => ∃ I' R', r = some (.int (am_i (caA w (if siF last wf fm wd (nt i) lim 0 (s i) = -1 then caX last wf fm nt wd 0 s m (i + 1) lim who else caX last wf fm nt wd 0 s m (i + 1) (siF last wf fm wd (nt i) lim 0 (s i) - ((0 : Nat) : Int)).toNat i)))) ∧ M = (I', J, R', 138) ∧ rR R0 R' ∧ ∀ q k, ¬ (35 ≤ q ∧ q ≤ 41) → I' q k = I0 q k) _
    generalize siF last wf fm wd (nt i) lim 0 (s i) = v at hb ⊢
    by_cases q : v = -1
    · rw [if_pos q]
      simp (disch := first | assumption | omega) only [am_i_add, am_i_sub, am_i_mul, am_ok_i, am_i_cl, n_lt, n_le, n_eq, n_lt0, n_le0, n_0lt, n_0le, n_eq0, ne_eq, ↓reduceIte, not_true_eq_false, not_false_eq_true, and_true, true_and, and_false, false_and, eq_T, eq_F, lt_T, lt_F, le_T, le_F, qn_T, qn_F, and_F, b01_T, b01_F, e_isIn, Int32.toInt_toInt64, am_i_toInt, am_l_toInt, Int.toNat_natCast, Int.reduceToNat, Int.reduceAdd, Int.reduceSub, Int.reduceMul, Int.reduceNeg, Nat.reduceAdd, Nat.reduceMul, Nat.add_zero, Nat.mul_zero, Nat.zero_add, am_zb0, am_zb1, ↓Bool.cond_decide, cond_true, cond_false, ↓am_let_s, ↓bI_p, bIJ_s, ↓bV_p, bVJ_s, ↓bL_p, bLJ_s, ly_cf, Bool.and_self, Bool.and_true, sg_X11_cat_63, am_i_s]
      exact x_cat hx0 h40 hc h6 w1 w2 hX hI1 hnt hB m (i + 1) lim who I2 _ (by omega) hl hw hR1 g2
    · rw [if_neg q]
      obtain ⟨v', rfl⟩ : ∃ k : Nat, v = k := ⟨v.toNat, by omega⟩
      rw [show ((v' : Int) - ((0 : Nat) : Int)).toNat = v' by omega]
      simp (disch := first | assumption | omega) only [am_i_add, am_i_sub, am_i_mul, am_ok_i, am_i_cl, n_lt, n_le, n_eq, n_lt0, n_le0, n_0lt, n_0le, n_eq0, ne_eq, ↓reduceIte, not_true_eq_false, not_false_eq_true, and_true, true_and, and_false, false_and, eq_T, eq_F, lt_T, lt_F, le_T, le_F, qn_T, qn_F, and_F, b01_T, b01_F, e_isIn, Int32.toInt_toInt64, am_i_toInt, am_l_toInt, Int.toNat_natCast, Int.reduceToNat, Int.reduceAdd, Int.reduceSub, Int.reduceMul, Int.reduceNeg, Nat.reduceAdd, Nat.reduceMul, Nat.add_zero, Nat.mul_zero, Nat.zero_add, am_zb0, am_zb1, ↓Bool.cond_decide, cond_true, cond_false, ↓am_let_s, ↓bI_p, bIJ_s, ↓bV_p, bVJ_s, ↓bL_p, bLJ_s, ly_cf, Bool.and_self, Bool.and_true, sg_X11_cat_63, am_i_s]
      exact x_cat hx0 h40 hc h6 w1 w2 hX hI1 hnt hB m (i + 1) v' i I2 _ (by omega) (by omega) (by omega) hR1 g2
theorem m_cat {I0 : tI} {w : Int} (hm : st_Rm R) (hX : cxM last wd nb nt wf fm I0) (h58 : I0 64 58 = am_i 0) (w1 : 0 ≤ w) (w2 : w ≤ 1) : ∀ (m k h : Nat) (s : Nat → bt) (I : tI) (J : tJ), m = min (60 - k) (999 - h) → k ≤ 60 → thM I0 I → rwM nb nt last h s I → Wp (fun r M => ∃ I' J', r = some (.int (am_i (if w = 0 then (caM last nb wf fm nt wd m k s).1 else (caM last nb wf fm nt wd m k s).2))) ∧ M = (I', J', R, 138) ∧ frJ J J' ∧ ∀ q j, ¬ sC q j → I' q j = I0 q j) (am_E (d + 8) 229 30 [(0, .ref 64), (1, .int (am_i w)), (2, .int (am_i (-1))), (3, .int (am_i (-1))), (4, .int (am_i k))] [] (I, J, R, 138))
  | m, k, h, s, I, J, hm0, hk, ht, hB => by
    have h6 := hX.2.2.2.2.2.1
    have h0 := hB.2.1
    have hh := hB.1
    have e4 : I 93 4 = am_i wd := by rw [ht.2.2.2 _ _ (by unfold sC; omega) (by omega) (by omega)]; exact hX.2.2.1
    have f89 : ∀ (I : tI) (J' : tJ) (a b : Int32), frJ J J' → thM I0 I → Wp (fun r M => ∃ I' J', r = some (.int (if w = 0 then a else b)) ∧ M = (I', J', R, 138) ∧ frJ J J' ∧ ∀ q j, ¬ sC q j → I' q j = I0 q j) (am_E (d + 8) 229 89 [(0, .ref 64), (1, .int (am_i w)), (2, .int a), (3, .int b)] [] (I, J', R, 138)) := by
      intro I J' a b hj ht
      rw [sg_X12_cat_89]
      simp (disch := first | assumption | omega) only [↓Bool.cond_decide, cond_true, cond_false, ↓am_let_s, ↓bI_p, bIJ_s, ↓bV_p, bVJ_s, ↓bL_p, bLJ_s, ly_cf, Bool.and_self, Bool.and_true]
      refine Wp_V (m_back hm ht h58) ?_
      rintro _ _ ⟨I', rfl, rfl, e1⟩
      refine ⟨rfl, ?_⟩
      by_cases q : w = 0
      · simp (disch := first | assumption | omega) only [↓Bool.cond_decide, cond_true, cond_false, ↓am_let_s, ↓bI_p, bIJ_s, ↓bV_p, bVJ_s, ↓bL_p, bLJ_s, ly_cf, Bool.and_self, Bool.and_true, am_i_add, am_i_sub, am_i_mul, am_ok_i, am_i_cl, n_lt, n_le, n_eq, n_lt0, n_le0, n_0lt, n_0le, n_eq0, ne_eq, ↓reduceIte, not_true_eq_false, not_false_eq_true, and_true, true_and, and_false, false_and, eq_T, eq_F, lt_T, lt_F, le_T, le_F, qn_T, qn_F, and_F, b01_T, b01_F, e_isIn, Int32.toInt_toInt64, am_i_toInt, am_l_toInt, Int.toNat_natCast, Int.reduceToNat, Int.reduceAdd, Int.reduceSub, Int.reduceMul, Int.reduceNeg, Nat.reduceAdd, Nat.reduceMul, Nat.add_zero, Nat.mul_zero, Nat.zero_add, am_zb0, am_zb1]
        exact Wp_r ⟨I', J', by rw [if_pos q], rfl, hj, e1⟩
      · simp (disch := first | assumption | omega) only [↓Bool.cond_decide, cond_true, cond_false, ↓am_let_s, ↓bI_p, bIJ_s, ↓bV_p, bVJ_s, ↓bL_p, bLJ_s, ly_cf, Bool.and_self, Bool.and_true, am_i_add, am_i_sub, am_i_mul, am_ok_i, am_i_cl, n_lt, n_le, n_eq, n_lt0, n_le0, n_0lt, n_0le, n_eq0, ne_eq, ↓reduceIte, not_true_eq_false, not_false_eq_true, and_true, true_and, and_false, false_and, eq_T, eq_F, lt_T, lt_F, le_T, le_F, qn_T, qn_F, and_F, b01_T, b01_F, e_isIn, Int32.toInt_toInt64, am_i_toInt, am_l_toInt, Int.toNat_natCast, Int.reduceToNat, Int.reduceAdd, Int.reduceSub, Int.reduceMul, Int.reduceNeg, Nat.reduceAdd, Nat.reduceMul, Nat.add_zero, Nat.mul_zero, Nat.zero_add, am_zb0, am_zb1]
        exact Wp_r ⟨I', J', by rw [if_neg q], rfl, hj, e1⟩
    rw [sg_X12_cat_30]
    cases m with
    | zero =>
      have e : (if w = 0 then (caM last nb wf fm nt wd 0 k s).1 else (caM last nb wf fm nt wd 0 k s).2) = -1 := by split <;> rfl
      rw [e]
      have f := f89 I J (am_i (-1)) (am_i (-1)) (frJ_r _) ht
      rw [show (if w = 0 then am_i (-1) else am_i (-1)) = am_i (-1) by split <;> rfl] at f
      by_cases q : 60 ≤ k
      · simp (disch := first | assumption | omega) only [rM hm, ly_csm, ly_cam, ly_cf, ly_kd, ly_ln, ↓Bool.cond_decide, cond_true, cond_false, ↓bI_p, ↓bV_p, ↓bL_p, bIJ_s, bVJ_s, bLJ_s, ↓am_let_s, Nat.blt, Nat.ble, Bool.and_true, Bool.true_and, Bool.and_self, Int.cast_ofNat_Int, am_i_add, am_i_sub, am_i_mul, am_ok_i, am_i_cl, n_lt, n_le, n_eq, n_lt0, n_le0, n_0lt, n_0le, n_eq0, ne_eq, ↓reduceIte, not_true_eq_false, not_false_eq_true, and_true, true_and, and_false, false_and, eq_T, eq_F, lt_T, lt_F, le_T, le_F, qn_T, qn_F, and_F, b01_T, b01_F, e_isIn, Int32.toInt_toInt64, am_i_toInt, am_l_toInt, Int.toNat_natCast, Int.reduceToNat, Int.reduceAdd, Int.reduceSub, Int.reduceMul, Int.reduceNeg, Nat.reduceAdd, Nat.reduceMul, Nat.add_zero, Nat.mul_zero, Nat.zero_add, am_zb0, am_zb1]
        exact f
      · simp (disch := first | assumption | omega) only [rM hm, ly_csm, ly_cam, ly_cf, ly_kd, ly_ln, ↓Bool.cond_decide, cond_true, cond_false, ↓bI_p, ↓bV_p, ↓bL_p, bIJ_s, bVJ_s, bLJ_s, ↓am_let_s, Nat.blt, Nat.ble, Bool.and_true, Bool.true_and, Bool.and_self, Int.cast_ofNat_Int, am_i_add, am_i_sub, am_i_mul, am_ok_i, am_i_cl, n_lt, n_le, n_eq, n_lt0, n_le0, n_0lt, n_0le, n_eq0, ne_eq, ↓reduceIte, not_true_eq_false, not_false_eq_true, and_true, true_and, and_false, false_and, eq_T, eq_F, lt_T, lt_F, le_T, le_F, qn_T, qn_F, and_F, b01_T, b01_F, e_isIn, Int32.toInt_toInt64, am_i_toInt, am_l_toInt, Int.toNat_natCast, Int.reduceToNat, Int.reduceAdd, Int.reduceSub, Int.reduceMul, Int.reduceNeg, Nat.reduceAdd, Nat.reduceMul, Nat.add_zero, Nat.mul_zero, Nat.zero_add, am_zb0, am_zb1, h0]
        exact f
    | succ m =>
      simp (disch := first | assumption | omega) only [rM hm, ly_csm, ly_cam, ly_cf, ly_kd, ly_ln, ↓Bool.cond_decide, cond_true, cond_false, ↓bI_p, ↓bV_p, ↓bL_p, bIJ_s, bVJ_s, bLJ_s, ↓am_let_s, Nat.blt, Nat.ble, Bool.and_true, Bool.true_and, Bool.and_self, Int.cast_ofNat_Int, am_i_add, am_i_sub, am_i_mul, am_ok_i, am_i_cl, n_lt, n_le, n_eq, n_lt0, n_le0, n_0lt, n_0le, n_eq0, ne_eq, ↓reduceIte, not_true_eq_false, not_false_eq_true, and_true, true_and, and_false, false_and, eq_T, eq_F, lt_T, lt_F, le_T, le_F, qn_T, qn_F, and_F, b01_T, b01_F, e_isIn, Int32.toInt_toInt64, am_i_toInt, am_l_toInt, Int.toNat_natCast, Int.reduceToNat, Int.reduceAdd, Int.reduceSub, Int.reduceMul, Int.reduceNeg, Nat.reduceAdd, Nat.reduceMul, Nat.add_zero, Nat.mul_zero, Nat.zero_add, am_zb0, am_zb1, h0, e4]
      refine Wp_V (m_thour hm hX.2.2.2.1 hX (by omega) ht hB) ?_
      rintro _ _ ⟨I1, J1, rfl, rfl, g1, g2, g3, g4, g5, g6⟩
      refine ⟨rfl, ?_⟩
      have sb := skF_b (p := skB last wf fm wd nt s) nb 0 (-1) (Or.inl rfl)
      by_cases q : skF (skB last wf fm wd nt s) 0 nb (-1) = -1
      · have e : caM last nb wf fm nt wd (m + 1) k s = caM last nb wf fm nt wd m (k + 1) (hrS last wf fm nt wd s) := if_pos q
        rw [e]
        rw [q] at g5
        simp (disch := first | assumption | omega) only [am_i_add, am_i_sub, am_i_mul, am_ok_i, am_i_cl, n_lt, n_le, n_eq, n_lt0, n_le0, n_0lt, n_0le, n_eq0, ne_eq, ↓reduceIte, not_true_eq_false, not_false_eq_true, and_true, true_and, and_false, false_and, eq_T, eq_F, lt_T, lt_F, le_T, le_F, qn_T, qn_F, and_F, b01_T, b01_F, e_isIn, Int32.toInt_toInt64, am_i_toInt, am_l_toInt, Int.toNat_natCast, Int.reduceToNat, Int.reduceAdd, Int.reduceSub, Int.reduceMul, Int.reduceNeg, Nat.reduceAdd, Nat.reduceMul, Nat.add_zero, Nat.mul_zero, Nat.zero_add, am_zb0, am_zb1, ↓Bool.cond_decide, cond_true, cond_false, ↓am_let_s, ↓bI_p, bIJ_s, ↓bV_p, bVJ_s, ↓bL_p, bLJ_s, ly_cf, Bool.and_self, Bool.and_true, g5, sg_X12_cat_83, am_i_s]
        refine Wp_m (m_cat hm hX h58 w1 w2 m (k + 1) (h + 1) _ I1 J1 (by omega) (by omega) g2 g3) ?_
        rintro _ _ ⟨I2, J2, rfl, rfl, p1, p2⟩
        exact ⟨I2, J2, rfl, rfl, frJ_t g1 p1, p2⟩
      · have e : caM last nb wf fm nt wd (m + 1) k s = ((k : Int), skF (skB last wf fm wd nt s) 0 nb (-1)) := if_neg q
        rw [e]
        generalize skF (skB last wf fm wd nt s) 0 nb (-1) = f at *
        have f' := f89 I1 J1 (am_i k) (am_i f) g1 g2
        rw [show (if w = 0 then am_i (k : Int) else am_i f) = am_i (if w = 0 then (k : Int) else f) by split <;> rfl] at f'
        simp (disch := first | assumption | omega) only [am_i_add, am_i_sub, am_i_mul, am_ok_i, am_i_cl, n_lt, n_le, n_eq, n_lt0, n_le0, n_0lt, n_0le, n_eq0, ne_eq, ↓reduceIte, not_true_eq_false, not_false_eq_true, and_true, true_and, and_false, false_and, eq_T, eq_F, lt_T, lt_F, le_T, le_F, qn_T, qn_F, and_F, b01_T, b01_F, e_isIn, Int32.toInt_toInt64, am_i_toInt, am_l_toInt, Int.toNat_natCast, Int.reduceToNat, Int.reduceAdd, Int.reduceSub, Int.reduceMul, Int.reduceNeg, Nat.reduceAdd, Nat.reduceMul, Nat.add_zero, Nat.mul_zero, Nat.zero_add, am_zb0, am_zb1, ↓Bool.cond_decide, cond_true, cond_false, ↓am_let_s, ↓bI_p, bIJ_s, ↓bV_p, bVJ_s, ↓bL_p, bLJ_s, ly_cf, Bool.and_self, Bool.and_true, g5, sg_X12_cat_83, am_i_s]
        rw [sg_X12_cat_30]
        by_cases q6 : 60 ≤ k + 1
        · simp (disch := first | assumption | omega) only [rM hm, ly_csm, ly_cam, ly_cf, ly_kd, ly_ln, ↓Bool.cond_decide, cond_true, cond_false, ↓bI_p, ↓bV_p, ↓bL_p, bIJ_s, bVJ_s, bLJ_s, ↓am_let_s, Nat.blt, Nat.ble, Bool.and_true, Bool.true_and, Bool.and_self, Int.cast_ofNat_Int, am_i_add, am_i_sub, am_i_mul, am_ok_i, am_i_cl, n_lt, n_le, n_eq, n_lt0, n_le0, n_0lt, n_0le, n_eq0, ne_eq, ↓reduceIte, not_true_eq_false, not_false_eq_true, and_true, true_and, and_false, false_and, eq_T, eq_F, lt_T, lt_F, le_T, le_F, qn_T, qn_F, and_F, b01_T, b01_F, e_isIn, Int32.toInt_toInt64, am_i_toInt, am_l_toInt, Int.toNat_natCast, Int.reduceToNat, Int.reduceAdd, Int.reduceSub, Int.reduceMul, Int.reduceNeg, Nat.reduceAdd, Nat.reduceMul, Nat.add_zero, Nat.mul_zero, Nat.zero_add, am_zb0, am_zb1]
          exact f'
        · simp (disch := first | assumption | omega) only [rM hm, ly_csm, ly_cam, ly_cf, ly_kd, ly_ln, ↓Bool.cond_decide, cond_true, cond_false, ↓bI_p, ↓bV_p, ↓bL_p, bIJ_s, bVJ_s, bLJ_s, ↓am_let_s, Nat.blt, Nat.ble, Bool.and_true, Bool.true_and, Bool.and_self, Int.cast_ofNat_Int, am_i_add, am_i_sub, am_i_mul, am_ok_i, am_i_cl, n_lt, n_le, n_eq, n_lt0, n_le0, n_0lt, n_0le, n_eq0, ne_eq, ↓reduceIte, not_true_eq_false, not_false_eq_true, and_true, true_and, and_false, false_and, eq_T, eq_F, lt_T, lt_F, le_T, le_F, qn_T, qn_F, and_F, b01_T, b01_F, e_isIn, Int32.toInt_toInt64, am_i_toInt, am_l_toInt, Int.toNat_natCast, Int.reduceToNat, Int.reduceAdd, Int.reduceSub, Int.reduceMul, Int.reduceNeg, Nat.reduceAdd, Nat.reduceMul, Nat.add_zero, Nat.mul_zero, Nat.zero_add, am_zb0, am_zb1]
          exact f'
end CAT
