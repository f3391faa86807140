/-! ===== rides ===== -/
def upT (t : Nat → Nat) (v : Nat) : Nat → Nat := fun b => t b + (if v = b + 1 then 1 else 0)
theorem upT_0 (t : Nat → Nat) : upT t 0 = t := by
  funext b
  show t b + (if 0 = b + 1 then 1 else 0) = t b
  rw [if_neg (by omega), Nat.add_zero]
/-- how many ride by the row f (of each the boat and one, 0 none) from r on, m of them; -1 if it can't be -/
def vF (fit : Nat → Nat → Bool) (f : Nat → Nat) : Nat → Nat → (Nat → Nat) → Int
  | 0, _, _ => 0
  | m + 1, r, t => if f r = 0 then vF fit f m (r + 1) (upT t (f r)) else if fit r (f r - 1) = true ∧ t (f r - 1) < 2 then (if vF fit f m (r + 1) (upT t (f r)) = -1 then -1 else vF fit f m (r + 1) (upT t (f r)) + 1) else -1
/-- a row as a number -/
def cdF (B : Nat) (f : Nat → Nat) : Nat → Nat
  | 0 => 0
  | k + 1 => cdF B f k * B + f k
def abS (F : Nat → Nat) : Nat → Nat → Nat
  | 0, _ => 0
  | m + 1, r => abS F m (r + 1) + (if F r = 0 then 0 else 1)
section FPURE
variable {fit : Nat → Nat → Bool} {f g h : Nat → Nat} {B n : Nat}
theorem vF_1 {m r : Nat} {t : Nat → Nat} : vF fit f (m + 1) r t = if f r = 0 then vF fit f m (r + 1) (upT t (f r)) else if fit r (f r - 1) = true ∧ t (f r - 1) < 2 then (if vF fit f m (r + 1) (upT t (f r)) = -1 then -1 else vF fit f m (r + 1) (upT t (f r)) + 1) else -1 := rfl
theorem vF_b : ∀ (m r : Nat) (t : Nat → Nat), -1 ≤ vF fit f m r t ∧ vF fit f m r t ≤ m
  | 0, _, _ => ⟨by show (-1 : Int) ≤ 0; omega, by show (0 : Int) ≤ _; omega⟩
  | m + 1, r, t => by
    have := vF_b m (r + 1) (upT t (f r))
    rw [vF_1]
    split
    · omega
    · split
      · split <;> omega
      · omega
theorem vF_c : ∀ (m r : Nat) (t : Nat → Nat), (∀ k, r ≤ k → k < r + m → f k = g k) → vF fit f m r t = vF fit g m r t
  | 0, _, _, _ => rfl
  | m + 1, r, t, e => by
    rw [vF_1, vF_1, e r (by omega) (by omega), vF_c m (r + 1) _ (fun k k1 k2 => e k (by omega) (by omega))]
theorem cdF_c : ∀ n, (∀ k, k < n → f k = g k) → cdF B f n = cdF B g n
  | 0, _ => rfl
  | n + 1, e => by
    show cdF B f n * B + f n = cdF B g n * B + g n
    rw [cdF_c n (fun k hk => e k (by omega)), e n (by omega)]
theorem cdF_st {a b x y : Nat} (h1 : a < b) (h2 : x < B) : a * B + x < b * B + y := by
  have : (a + 1) * B ≤ b * B := Nat.mul_le_mul_right B h1
  rw [Nat.succ_mul] at this
  omega
theorem cdF_lt {r : Nat} (e : ∀ k, k < r → f k = g k) (h1 : f r < g r) : ∀ n, r < n → (∀ k, k < n → f k < B) → cdF B f n < cdF B g n
  | 0, hn, _ => by omega
  | n + 1, hn, hf => by
    show cdF B f n * B + f n < cdF B g n * B + g n
    by_cases q : r = n
    · subst q
      rw [cdF_c r e]
      omega
    · exact cdF_st (cdF_lt e h1 n (by omega) (fun k hk => hf k (by omega))) (hf n (by omega))
theorem cdF_inj : ∀ n, (∀ k, k < n → f k < B) → (∀ k, k < n → g k < B) → cdF B f n = cdF B g n → ∀ k, k < n → f k = g k
  | 0, _, _, _, k, hk => by omega
  | n + 1, hf, hg, e, k, hk => by
    have e' : cdF B f n * B + f n = cdF B g n * B + g n := e
    have ff := hf n (by omega)
    have gg := hg n (by omega)
    have : cdF B f n = cdF B g n := by
      rcases Nat.lt_trichotomy (cdF B f n) (cdF B g n) with q | q | q
      · have := cdF_st (x := f n) (y := g n) q ff; omega
      · exact q
      · have := cdF_st (x := g n) (y := f n) q gg; omega
    rw [this] at e'
    by_cases c : k = n
    · subst c; omega
    · exact cdF_inj n (fun k hk => hf k (by omega)) (fun k hk => hg k (by omega)) this k (by omega)
theorem cdF_le : ∀ n, (∀ k, k < n → f k ≤ g k) → cdF B f n ≤ cdF B g n
  | 0, _ => Nat.le_refl _
  | n + 1, e => by
    show cdF B f n * B + f n ≤ cdF B g n * B + g n
    have := Nat.mul_le_mul_right B (cdF_le n (fun k hk => e k (by omega)))
    have := e n (by omega)
    omega
theorem vF_a {F : Nat → Nat} (hfit : ∀ r, r < n → ∀ b, b < 6 → F r / 2 ^ b % 2 = if fit r b = true then 1 else 0) (hf : ∀ k, k < n → f k ≤ 6) : ∀ (m r : Nat) (t : Nat → Nat), r + m = n → vF fit f m r t ≤ abS F m r
  | 0, _, _, _ => Int.le_refl _
  | m + 1, r, t, hr => by
    have ih := vF_a hfit hf m (r + 1) (upT t (f r)) (by omega)
    have e : abS F (m + 1) r = abS F m (r + 1) + (if F r = 0 then 0 else 1) := rfl
    rw [vF_1, e]
    by_cases q : f r = 0
    · rw [if_pos q]
      omega
    · rw [if_neg q]
      by_cases q2 : fit r (f r - 1) = true ∧ t (f r - 1) < 2
      · have hb := hfit r (by omega) (f r - 1) (by have := hf r (by omega); omega)
        rw [if_pos q2.1] at hb
        have F0 : F r ≠ 0 := fun e => by rw [e, Nat.zero_div] at hb; omega
        rw [if_pos q2, if_neg F0]
        split <;> omega
      · rw [if_neg q2]
        omega
end FPURE
section FERRY
variable {d : Nat} {J : tJ} {R : tR} {fit : Nat → Nat → Bool} {nb n : Nat} {F : Nat → Nat} {I0 : tI}
def seatQ (fit : Nat → Nat → Bool) (nb n : Nat) (I0 : tI) (J : tJ) (R : tR) (m r need : Nat) (t p : Nat → Nat) (e : am_R) : Prop := ∃ I' : tI, (∀ q k, q ≠ 54 → q ≠ 55 → I' q k = I0 q k) ∧
  ((e = some (some (.int (am_i 1)), (I', J, R, 138)) ∧ ∃ g : Nat → Nat, (∀ k, k < r → g k = p k) ∧ (∀ k, k < n → g k ≤ nb ∧ I' 54 k = am_i ((g k : Int) - 1)) ∧ vF fit g m r t = need ∧ ∀ h : Nat → Nat, (∀ k, k < r → h k = p k) → (∀ k, k < n → h k ≤ nb) → vF fit h m r t = need → cdF (nb + 1) g n ≤ cdF (nb + 1) h n)
  ∨ (e = some (some (.int (am_i 0)), (I', J, R, 138)) ∧ (∀ b, b < 6 → I' 55 b = am_i (t b)) ∧ (∀ k, k < r → I' 54 k = am_i ((p k : Int) - 1)) ∧ ∀ h : Nat → Nat, (∀ k, k < r → h k = p k) → (∀ k, k < n → h k ≤ nb) → vF fit h m r t ≠ need))
def ferI (n : Nat) (F : Nat → Nat) (I0 : tI) : Prop := I0 52 3 = am_i n ∧ (∀ r, r < n → F r < 64 ∧ I0 53 r = am_i (F r)) ∧ ∀ r, r ≤ n → I0 56 r = am_i (abS F (n - r) r)
theorem abS_b {F : Nat → Nat} : ∀ m r, abS F m r ≤ m
  | 0, _ => Nat.le_refl _
  | m + 1, r => by
    have := abS_b (F := F) m (r + 1)
    show abS F m (r + 1) + (if F r = 0 then 0 else 1) ≤ m + 1
    split <;> omega
theorem x_s56 {m r need : Nat} {t p : Nat → Nat} (hx : st_Rx R) (hn : n ≤ 6) (hnb : nb ≤ 6) (hI0 : ferI n F I0) (hfit : ∀ r, r < n → ∀ b, b < 6 → F r / 2 ^ b % 2 = if fit r b = true then 1 else 0) (hfb : ∀ r b, fit r b = true → b < nb) (hr : r + (m + 1) = n) (hneed : need ≤ 6) (ht : ∀ b, b < 6 → t b ≤ 2) (hp : ∀ k, k < r → p k ≤ nb)
    (hrec : ∀ (need : Nat) (t p : Nat → Nat) (I : tI), need ≤ 6 → (∀ q k, q ≠ 54 → q ≠ 55 → I q k = I0 q k) → (∀ b, b < 6 → t b ≤ 2 ∧ I 55 b = am_i (t b)) → (∀ k, k < r + 1 → p k ≤ nb ∧ I 54 k = am_i ((p k : Int) - 1)) → seatQ fit nb n I0 J R m (r + 1) need t p (am_E (d + m + 1) 12 0 [(0, .ref 52), (1, .int (am_i (r + 1 : Nat))), (2, .int (am_i need))] [] (I, J, R, 138))) :
    ∀ (j v : Nat) (I : tI), v + j = 6 → (∀ q k, q ≠ 54 → q ≠ 55 → I q k = I0 q k) → (∀ b, b < 6 → I 55 b = am_i (t b)) → (∀ k, k < r → I 54 k = am_i ((p k : Int) - 1)) → (∀ h : Nat → Nat, (∀ k, k < r → h k = p k) → (∀ k, k < n → h k ≤ nb) → h r ≤ v → vF fit h (m + 1) r t ≠ need) → seatQ fit nb n I0 J R (m + 1) r need t p (am_E (d + (m + 1) + 1) 12 56 [(0, .ref 52), (1, .int (am_i r)), (2, .int (am_i need)), (3, .int (am_i v))] [] (I, J, R, 138))
  | 0, v, I, hv, hI, hT, hP, hno => by
    have e : am_E (d + (m + 1) + 1) 12 56 [(0, .ref 52), (1, .int (am_i r)), (2, .int (am_i need)), (3, .int (am_i v))] [] (I, J, R, 138) = some (some (.int (am_i 0)), (I, J, R, 138)) := by
      rw [sg_X2_seat_56]
      simp (disch := first | assumption | omega) only [am_i_add, am_i_sub, am_i_mul, am_ok_i, am_i_cl, n_lt, n_le, n_eq, n_lt0, n_le0, n_0lt, n_0le, n_eq0, ne_eq, ↓reduceIte, not_true_eq_false, not_false_eq_true, and_true, true_and, and_false, false_and, eq_T, eq_F, lt_T, lt_F, le_T, le_F, qn_T, qn_F, and_F, b01_T, b01_F, e_isIn, Int32.toInt_toInt64, am_i_toInt, am_l_toInt, Int.toNat_natCast, Int.reduceToNat, Int.reduceAdd, Int.reduceSub, Int.reduceMul, Int.reduceNeg, Nat.reduceAdd, Nat.reduceMul, Nat.add_zero, Nat.mul_zero, Nat.zero_add, am_zb0, am_zb1, ↓Bool.cond_decide, cond_true, cond_false, ↓am_let_s, ↓bI_p, bIJ_s, ↓bV_p, bVJ_s, ↓bL_p, bLJ_s, ly_cf, Bool.and_self, Bool.and_true, sg_X2_seat_140]
    exact ⟨I, hI, Or.inr ⟨e, hT, hP, fun h h1 h2 => hno h h1 h2 (by have := h2 r (by omega); omega)⟩⟩
  | j + 1, v, I, hv, hI, hT, hP, hno => by
    by_cases q0 : need = 0
    · have e : am_E (d + (m + 1) + 1) 12 56 [(0, .ref 52), (1, .int (am_i r)), (2, .int (am_i need)), (3, .int (am_i v))] [] (I, J, R, 138) = some (some (.int (am_i 0)), (I, J, R, 138)) := by
        rw [sg_X2_seat_56]
        simp (disch := first | assumption | omega) only [am_i_add, am_i_sub, am_i_mul, am_ok_i, am_i_cl, n_lt, n_le, n_eq, n_lt0, n_le0, n_0lt, n_0le, n_eq0, ne_eq, ↓reduceIte, not_true_eq_false, not_false_eq_true, and_true, true_and, and_false, false_and, eq_T, eq_F, lt_T, lt_F, le_T, le_F, qn_T, qn_F, and_F, b01_T, b01_F, e_isIn, Int32.toInt_toInt64, am_i_toInt, am_l_toInt, Int.toNat_natCast, Int.reduceToNat, Int.reduceAdd, Int.reduceSub, Int.reduceMul, Int.reduceNeg, Nat.reduceAdd, Nat.reduceMul, Nat.add_zero, Nat.mul_zero, Nat.zero_add, am_zb0, am_zb1, ↓Bool.cond_decide, cond_true, cond_false, ↓am_let_s, ↓bI_p, bIJ_s, ↓bV_p, bVJ_s, ↓bL_p, bLJ_s, ly_cf, Bool.and_self, Bool.and_true, sg_X2_seat_140]
      refine ⟨I, hI, Or.inr ⟨e, hT, hP, fun h h1 h2 h3 => ?_⟩⟩
      by_cases c : h r = 0
      · exact hno h h1 h2 (by omega) h3
      · have := vF_b (fit := fit) (f := h) m (r + 1) (upT t (h r))
        rw [vF_1, if_neg c] at h3
        split at h3
        · split at h3 <;> omega
        · omega
    · have e53 : I 53 r = am_i (F r) := by rw [hI _ _ (by omega) (by omega)]; exact (hI0.2.1 r (by omega)).2
      have F64 := (hI0.2.1 r (by omega)).1
      have bt := bit_t (B := F r) (b := v) F64 (by omega)
      rw [hfit r (by omega) v (by omega)] at bt
      have tv := ht v (by omega)
      have t55 := hT v (by omega)
      -- the next boat
      have next : ∀ I', (∀ q k, q ≠ 54 → q ≠ 55 → I' q k = I0 q k) → (∀ b, b < 6 → I' 55 b = am_i (t b)) → (∀ k, k < r → I' 54 k = am_i ((p k : Int) - 1)) → (∀ h : Nat → Nat, (∀ k, k < r → h k = p k) → (∀ k, k < n → h k ≤ nb) → h r = v + 1 → vF fit h (m + 1) r t ≠ need) → seatQ fit nb n I0 J R (m + 1) r need t p (am_E (d + (m + 1) + 1) 12 134 [(0, .ref 52), (1, .int (am_i r)), (2, .int (am_i need)), (3, .int (am_i v))] [] (I', J, R, 138)) := by
        intro I' a1 a2 a3 a4
        have := x_s56 hx hn hnb hI0 hfit hfb hr hneed ht hp hrec j (v + 1) I' (by omega) a1 a2 a3 (fun h h1 h2 h3 => by
          by_cases c : h r = v + 1
          · exact a4 h h1 h2 c
          · exact hno h h1 h2 (by omega))
        rw [sg_X2_seat_134]
        simp only [↓Bool.cond_decide, cond_true, cond_false, ↓am_let_s, ↓bI_p, bIJ_s, ↓bV_p, bVJ_s, ↓bL_p, bLJ_s, ly_cf, Bool.and_self, Bool.and_true, am_i_add]
        exact this
      by_cases q1 : fit r v = true
      · rw [if_pos q1] at bt
        by_cases q2 : t v < 2
        · have rc := hrec (need - 1) (upT t (v + 1)) (fun k => if k = r then v + 1 else p k) (am_up (am_up I 54 r (am_i v)) 55 v (am_i ((t v + 1 : Nat) : Int))) (by omega) (fun q k a1 a2 => by rw [am_up_o (by omega), am_up_o (by omega)]; exact hI q k a1 a2) (fun b hb => by
            by_cases c : b = v
            · subst c
              have : upT t (b + 1) b = t b + 1 := by
                show t b + (if b + 1 = b + 1 then 1 else 0) = t b + 1
                rw [if_pos rfl]
              rw [this, am_up_e]
              exact ⟨by omega, rfl⟩
            · have : upT t (v + 1) b = t b := by
                show t b + (if v + 1 = b + 1 then 1 else 0) = t b
                rw [if_neg (by omega), Nat.add_zero]
              rw [this, am_up_o (by omega), am_up_o (by omega)]
              exact ⟨ht b hb, hT b hb⟩) (fun k hk => by
            show (if k = r then v + 1 else p k) ≤ nb ∧ _ = am_i (((if k = r then v + 1 else p k : Nat) : Int) - 1)
            by_cases c : k = r
            · have := hfb r v q1
              rw [if_pos c, am_up_o (by omega), c, am_up_e]
              refine ⟨by omega, ?_⟩
              congr 1
              omega
            · rw [if_neg c, am_up_o (by omega), am_up_o (by omega)]
              exact ⟨hp k (by omega), hP k (by omega)⟩)
          have hv1 : ∀ h : Nat → Nat, h r = v + 1 → vF fit h (m + 1) r t = (if vF fit h m (r + 1) (upT t (v + 1)) = -1 then -1 else vF fit h m (r + 1) (upT t (v + 1)) + 1) := fun h e => by
            rw [vF_1, e, if_neg (by omega), if_pos ⟨by rw [show v + 1 - 1 = v by omega]; exact q1, by rw [show v + 1 - 1 = v by omega]; exact q2⟩]
          have en : am_i ((need : Int) - 1) = am_i ((need - 1 : Nat) : Int) := by congr 1; omega
          have er : am_i ((r : Int) + 1) = am_i ((r + 1 : Nat) : Int) := rfl
          have et : am_i ((t v : Int) + 1) = am_i ((t v + 1 : Nat) : Int) := rfl
          have u55 : am_up I 54 r (am_i v) 55 v = am_i (t v) := by rw [am_up_o (by omega)]; exact t55
          obtain ⟨I', fr, ⟨e1, g, g1, g2, g3, g4⟩ | ⟨e0, g1, g2, g3⟩⟩ := rc
          · have e1' : am_E (d + (m + 1)) 12 0 [(0, .ref 52), (1, .int (am_i (r + 1 : Nat))), (2, .int (am_i (need - 1 : Nat)))] [] (am_up (am_up I 54 r (am_i v)) 55 v (am_i ((t v + 1 : Nat) : Int)), J, R, 138) = _ := e1
            have gr : g r = v + 1 := by rw [g1 r (by omega)]; exact if_pos rfl
            refine ⟨I', fr, Or.inl ⟨?_, g, fun k hk => by rw [g1 k (by omega)]; exact if_neg (by omega), g2, ?_, fun h h1 h2 h3 => ?_⟩⟩
            · rw [sg_X2_seat_56]
              simp (disch := first | assumption | omega) only [rX hx, ly_csx, ly_cax, ly_cf, ly_kd, ly_ln, ↓Bool.cond_decide, cond_true, cond_false, ↓bI_p, ↓bV_p, ↓bL_p, bIJ_s, bVJ_s, bLJ_s, ↓am_let_s, Nat.blt, Nat.ble, Bool.and_true, Bool.true_and, Bool.and_self, Int.cast_ofNat_Int, am_i_add, am_i_sub, am_i_mul, am_ok_i, am_i_cl, n_lt, n_le, n_eq, n_lt0, n_le0, n_0lt, n_0le, n_eq0, ne_eq, ↓reduceIte, not_true_eq_false, not_false_eq_true, and_true, true_and, and_false, false_and, eq_T, eq_F, lt_T, lt_F, le_T, le_F, qn_T, qn_F, and_F, b01_T, b01_F, e_isIn, Int32.toInt_toInt64, am_i_toInt, am_l_toInt, Int.toNat_natCast, Int.reduceToNat, Int.reduceAdd, Int.reduceSub, Int.reduceMul, Int.reduceNeg, Nat.reduceAdd, Nat.reduceMul, Nat.add_zero, Nat.mul_zero, Nat.zero_add, am_zb0, am_zb1, e53, bt, t55, u55, en, er, et, e1']
            · rw [hv1 g gr, g3, if_neg (by omega)]
              omega
            · rcases Nat.lt_trichotomy (h r) (v + 1) with c | c | c
              · exact absurd h3 (hno h h1 h2 (by omega))
              · refine g4 h (fun k hk => ?_) h2 ?_
                · show h k = if k = r then v + 1 else p k
                  by_cases ck : k = r
                  · rw [if_pos ck, ck]; exact c
                  · rw [if_neg ck]; exact h1 k (by omega)
                · rw [hv1 h c] at h3
                  split at h3 <;> omega
              · refine Nat.le_of_lt (cdF_lt (r := r) (fun k hk => ?_) (by omega) n (by omega) (fun k hk => by have := (g2 k hk).1; omega))
                rw [g1 k (by omega), h1 k hk]
                exact if_neg (by omega)
          · have e0' : am_E (d + (m + 1)) 12 0 [(0, .ref 52), (1, .int (am_i (r + 1 : Nat))), (2, .int (am_i (need - 1 : Nat)))] [] (am_up (am_up I 54 r (am_i v)) 55 v (am_i ((t v + 1 : Nat) : Int)), J, R, 138) = _ := e0
            have w55 : I' 55 v = am_i ((t v + 1 : Nat) : Int) := by
              rw [g1 v (by omega)]
              show am_i ((t v + (if v + 1 = v + 1 then 1 else 0) : Nat) : Int) = _
              rw [if_pos rfl]
            have ew : am_i (((t v + 1 : Nat) : Int) - 1) = am_i (t v) := by congr 1; omega
            have nx := next (am_up I' 55 v (am_i (t v))) (fun q k a1 a2 => by rw [am_up_o (by omega)]; exact fr q k a1 a2) (fun b hb => by
              by_cases c : b = v
              · rw [c, am_up_e]
              · rw [am_up_o (by omega), g1 b hb]
                show am_i ((t b + (if v + 1 = b + 1 then 1 else 0) : Nat) : Int) = _
                rw [if_neg (by omega), Nat.add_zero]) (fun k hk => by
              rw [am_up_o (by omega), g2 k (by omega)]
              show am_i (((if k = r then v + 1 else p k : Nat) : Int) - 1) = _
              rw [if_neg (by omega)]) (fun h h1 h2 c h3 => by
              refine g3 h (fun k hk => ?_) h2 ?_
              · show h k = if k = r then v + 1 else p k
                by_cases ck : k = r
                · rw [if_pos ck, ck]; exact c
                · rw [if_neg ck]; exact h1 k (by omega)
              · rw [hv1 h c] at h3
                split at h3 <;> omega)
            have ee : am_E (d + (m + 1) + 1) 12 56 [(0, .ref 52), (1, .int (am_i r)), (2, .int (am_i need)), (3, .int (am_i v))] [] (I, J, R, 138) = am_E (d + (m + 1) + 1) 12 134 [(0, .ref 52), (1, .int (am_i r)), (2, .int (am_i need)), (3, .int (am_i v))] [] (am_up I' 55 v (am_i (t v)), J, R, 138) := by
              rw [sg_X2_seat_56]
              simp (disch := first | assumption | omega) only [rX hx, ly_csx, ly_cax, ly_cf, ly_kd, ly_ln, ↓Bool.cond_decide, cond_true, cond_false, ↓bI_p, ↓bV_p, ↓bL_p, bIJ_s, bVJ_s, bLJ_s, ↓am_let_s, Nat.blt, Nat.ble, Bool.and_true, Bool.true_and, Bool.and_self, Int.cast_ofNat_Int, am_i_add, am_i_sub, am_i_mul, am_ok_i, am_i_cl, n_lt, n_le, n_eq, n_lt0, n_le0, n_0lt, n_0le, n_eq0, ne_eq, ↓reduceIte, not_true_eq_false, not_false_eq_true, and_true, true_and, and_false, false_and, eq_T, eq_F, lt_T, lt_F, le_T, le_F, qn_T, qn_F, and_F, b01_T, b01_F, e_isIn, Int32.toInt_toInt64, am_i_toInt, am_l_toInt, Int.toNat_natCast, Int.reduceToNat, Int.reduceAdd, Int.reduceSub, Int.reduceMul, Int.reduceNeg, Nat.reduceAdd, Nat.reduceMul, Nat.add_zero, Nat.mul_zero, Nat.zero_add, am_zb0, am_zb1, e53, bt, t55, u55, en, er, et, e0', w55, ew]
            rw [ee]
            exact nx
        · have nx := next I hI hT hP (fun h h1 h2 c h3 => by
            rw [vF_1, c, if_neg (by omega), if_neg (fun e => q2 (by rw [show v + 1 - 1 = v by omega] at e; exact e.2))] at h3
            omega)
          have ee : am_E (d + (m + 1) + 1) 12 56 [(0, .ref 52), (1, .int (am_i r)), (2, .int (am_i need)), (3, .int (am_i v))] [] (I, J, R, 138) = am_E (d + (m + 1) + 1) 12 134 [(0, .ref 52), (1, .int (am_i r)), (2, .int (am_i need)), (3, .int (am_i v))] [] (I, J, R, 138) := by
            rw [sg_X2_seat_56]
            simp (disch := first | assumption | omega) only [rX hx, ly_csx, ly_cax, ly_cf, ly_kd, ly_ln, ↓Bool.cond_decide, cond_true, cond_false, ↓bI_p, ↓bV_p, ↓bL_p, bIJ_s, bVJ_s, bLJ_s, ↓am_let_s, Nat.blt, Nat.ble, Bool.and_true, Bool.true_and, Bool.and_self, Int.cast_ofNat_Int, am_i_add, am_i_sub, am_i_mul, am_ok_i, am_i_cl, n_lt, n_le, n_eq, n_lt0, n_le0, n_0lt, n_0le, n_eq0, ne_eq, ↓reduceIte, not_true_eq_false, not_false_eq_true, and_true, true_and, and_false, false_and, eq_T, eq_F, lt_T, lt_F, le_T, le_F, qn_T, qn_F, and_F, b01_T, b01_F, e_isIn, Int32.toInt_toInt64, am_i_toInt, am_l_toInt, Int.toNat_natCast, Int.reduceToNat, Int.reduceAdd, Int.reduceSub, Int.reduceMul, Int.reduceNeg, Nat.reduceAdd, Nat.reduceMul, Nat.add_zero, Nat.mul_zero, Nat.zero_add, am_zb0, am_zb1, e53, bt, t55]
          rw [ee]
          exact nx
      · rw [if_neg q1] at bt
        have b0 : am_i ((0 : Nat) : Int) = am_i 0 := rfl
        have nx := next I hI hT hP (fun h h1 h2 c h3 => by
          rw [vF_1, c, if_neg (by omega), if_neg (fun e => q1 (by rw [show v + 1 - 1 = v by omega] at e; exact e.1))] at h3
          omega)
        have ee : am_E (d + (m + 1) + 1) 12 56 [(0, .ref 52), (1, .int (am_i r)), (2, .int (am_i need)), (3, .int (am_i v))] [] (I, J, R, 138) = am_E (d + (m + 1) + 1) 12 134 [(0, .ref 52), (1, .int (am_i r)), (2, .int (am_i need)), (3, .int (am_i v))] [] (I, J, R, 138) := by
          rw [sg_X2_seat_56]
          simp (disch := first | assumption | omega) only [rX hx, ly_csx, ly_cax, ly_cf, ly_kd, ly_ln, ↓Bool.cond_decide, cond_true, cond_false, ↓bI_p, ↓bV_p, ↓bL_p, bIJ_s, bVJ_s, bLJ_s, ↓am_let_s, Nat.blt, Nat.ble, Bool.and_true, Bool.true_and, Bool.and_self, Int.cast_ofNat_Int, am_i_add, am_i_sub, am_i_mul, am_ok_i, am_i_cl, n_lt, n_le, n_eq, n_lt0, n_le0, n_0lt, n_0le, n_eq0, ne_eq, ↓reduceIte, not_true_eq_false, not_false_eq_true, and_true, true_and, and_false, false_and, eq_T, eq_F, lt_T, lt_F, le_T, le_F, qn_T, qn_F, and_F, b01_T, b01_F, e_isIn, Int32.toInt_toInt64, am_i_toInt, am_l_toInt, Int.toNat_natCast, Int.reduceToNat, Int.reduceAdd, Int.reduceSub, Int.reduceMul, Int.reduceNeg, Nat.reduceAdd, Nat.reduceMul, Nat.add_zero, Nat.mul_zero, Nat.zero_add, am_zb0, am_zb1, e53, bt, b0]
        rw [ee]
        exact nx
theorem x_seat (hx : st_Rx R) (hn : n ≤ 6) (hnb : nb ≤ 6) (hI0 : ferI n F I0) (hfit : ∀ r, r < n → ∀ b, b < 6 → F r / 2 ^ b % 2 = if fit r b = true then 1 else 0) (hfb : ∀ r b, fit r b = true → b < nb) : ∀ (m r need : Nat) (t p : Nat → Nat) (I : tI), r + m = n → need ≤ 6 → (∀ q k, q ≠ 54 → q ≠ 55 → I q k = I0 q k) → (∀ b, b < 6 → t b ≤ 2 ∧ I 55 b = am_i (t b)) → (∀ k, k < r → p k ≤ nb ∧ I 54 k = am_i ((p k : Int) - 1)) → seatQ fit nb n I0 J R m r need t p (am_E (d + m + 1) 12 0 [(0, .ref 52), (1, .int (am_i r)), (2, .int (am_i need))] [] (I, J, R, 138))
  | 0, r, need, t, p, I, hr, hneed, hI, hT, hP => by
    have e3 : I 52 3 = am_i n := by rw [hI _ _ (by omega) (by omega)]; exact hI0.1
    have : r = n := by omega
    subst this
    by_cases q : need = 0
    · have e : am_E (d + 0 + 1) 12 0 [(0, .ref 52), (1, .int (am_i r)), (2, .int (am_i need))] [] (I, J, R, 138) = some (some (.int (am_i 1)), (I, J, R, 138)) := by
        rw [sg_X2_seat_0]
        simp (disch := first | assumption | omega) only [rX hx, ly_csx, ly_cax, ly_cf, ly_kd, ly_ln, ↓Bool.cond_decide, cond_true, cond_false, ↓bI_p, ↓bV_p, ↓bL_p, bIJ_s, bVJ_s, bLJ_s, ↓am_let_s, Nat.blt, Nat.ble, Bool.and_true, Bool.true_and, Bool.and_self, Int.cast_ofNat_Int, am_i_add, am_i_sub, am_i_mul, am_ok_i, am_i_cl, n_lt, n_le, n_eq, n_lt0, n_le0, n_0lt, n_0le, n_eq0, ne_eq, ↓reduceIte, not_true_eq_false, not_false_eq_true, and_true, true_and, and_false, false_and, eq_T, eq_F, lt_T, lt_F, le_T, le_F, qn_T, qn_F, and_F, b01_T, b01_F, e_isIn, Int32.toInt_toInt64, am_i_toInt, am_l_toInt, Int.toNat_natCast, Int.reduceToNat, Int.reduceAdd, Int.reduceSub, Int.reduceMul, Int.reduceNeg, Nat.reduceAdd, Nat.reduceMul, Nat.add_zero, Nat.mul_zero, Nat.zero_add, am_zb0, am_zb1, e3, sg_X2_seat_12]
      refine ⟨I, hI, Or.inl ⟨e, p, fun _ _ => rfl, hP, ?_, fun h h1 h2 h3 => ?_⟩⟩
      · rw [q]; rfl
      · rw [cdF_c (B := nb + 1) (f := p) (g := h) r (fun k hk => (h1 k hk).symm)]
        exact Nat.le_refl _
    · have e : am_E (d + 0 + 1) 12 0 [(0, .ref 52), (1, .int (am_i r)), (2, .int (am_i need))] [] (I, J, R, 138) = some (some (.int (am_i 0)), (I, J, R, 138)) := by
        rw [sg_X2_seat_0]
        simp (disch := first | assumption | omega) only [rX hx, ly_csx, ly_cax, ly_cf, ly_kd, ly_ln, ↓Bool.cond_decide, cond_true, cond_false, ↓bI_p, ↓bV_p, ↓bL_p, bIJ_s, bVJ_s, bLJ_s, ↓am_let_s, Nat.blt, Nat.ble, Bool.and_true, Bool.true_and, Bool.and_self, Int.cast_ofNat_Int, am_i_add, am_i_sub, am_i_mul, am_ok_i, am_i_cl, n_lt, n_le, n_eq, n_lt0, n_le0, n_0lt, n_0le, n_eq0, ne_eq, ↓reduceIte, not_true_eq_false, not_false_eq_true, and_true, true_and, and_false, false_and, eq_T, eq_F, lt_T, lt_F, le_T, le_F, qn_T, qn_F, and_F, b01_T, b01_F, e_isIn, Int32.toInt_toInt64, am_i_toInt, am_l_toInt, Int.toNat_natCast, Int.reduceToNat, Int.reduceAdd, Int.reduceSub, Int.reduceMul, Int.reduceNeg, Nat.reduceAdd, Nat.reduceMul, Nat.add_zero, Nat.mul_zero, Nat.zero_add, am_zb0, am_zb1, e3, sg_X2_seat_12]
      refine ⟨I, hI, Or.inr ⟨e, fun b hb => (hT b hb).2, fun k hk => (hP k hk).2, fun h h1 h2 h3 => ?_⟩⟩
      have : (0 : Int) = need := h3
      omega
  | m + 1, r, need, t, p, I, hr, hneed, hI, hT, hP => by
    have e3 : I 52 3 = am_i n := by rw [hI _ _ (by omega) (by omega)]; exact hI0.1
    have e56 : I 56 r = am_i (abS F (m + 1) r) := by
      rw [hI _ _ (by omega) (by omega), hI0.2.2 r (by omega), show n - r = m + 1 by omega]
    have ab := abS_b (F := F) (m + 1) r
    by_cases q : need ≤ abS F (m + 1) r
    · have hrec := fun (need : Nat) (t p : Nat → Nat) (I : tI) => x_seat hx hn hnb hI0 hfit hfb m (r + 1) need t p I (by omega)
      have rc := hrec need t (fun k => if k = r then 0 else p k) (am_up I 54 r (am_i (-1))) hneed (fun q k a1 a2 => by rw [am_up_o (by omega)]; exact hI q k a1 a2) (fun b hb => by rw [am_up_o (by omega)]; exact hT b hb) (fun k hk => by
        show (if k = r then 0 else p k) ≤ nb ∧ _ = am_i (((if k = r then 0 else p k : Nat) : Int) - 1)
        by_cases c : k = r
        · rw [if_pos c, c, am_up_e]
          exact ⟨by omega, rfl⟩
        · rw [if_neg c, am_up_o (by omega)]
          exact hP k (by omega))
      have h0 : ∀ h : Nat → Nat, h r = 0 → vF fit h (m + 1) r t = vF fit h m (r + 1) t := fun h e => by
        rw [vF_1, e, if_pos rfl, upT_0]
      have er : am_i ((r : Int) + 1) = am_i ((r + 1 : Nat) : Int) := rfl
      obtain ⟨I', fr, ⟨e1, g, g1, g2, g3, g4⟩ | ⟨e0, g1, g2, g3⟩⟩ := rc
      · have e1' : am_E (d + (m + 1)) 12 0 [(0, .ref 52), (1, .int (am_i (r + 1 : Nat))), (2, .int (am_i need))] [] (am_up I 54 r (am_i (-1)), J, R, 138) = _ := e1
        have gr : g r = 0 := by rw [g1 r (by omega)]; exact if_pos rfl
        refine ⟨I', fr, Or.inl ⟨?_, g, fun k hk => by rw [g1 k (by omega)]; exact if_neg (by omega), g2, ?_, fun h h1 h2 h3 => ?_⟩⟩
        · rw [sg_X2_seat_0]
          simp (disch := first | assumption | omega) only [rX hx, ly_csx, ly_cax, ly_cf, ly_kd, ly_ln, ↓Bool.cond_decide, cond_true, cond_false, ↓bI_p, ↓bV_p, ↓bL_p, bIJ_s, bVJ_s, bLJ_s, ↓am_let_s, Nat.blt, Nat.ble, Bool.and_true, Bool.true_and, Bool.and_self, Int.cast_ofNat_Int, am_i_add, am_i_sub, am_i_mul, am_ok_i, am_i_cl, n_lt, n_le, n_eq, n_lt0, n_le0, n_0lt, n_0le, n_eq0, ne_eq, ↓reduceIte, not_true_eq_false, not_false_eq_true, and_true, true_and, and_false, false_and, eq_T, eq_F, lt_T, lt_F, le_T, le_F, qn_T, qn_F, and_F, b01_T, b01_F, e_isIn, Int32.toInt_toInt64, am_i_toInt, am_l_toInt, Int.toNat_natCast, Int.reduceToNat, Int.reduceAdd, Int.reduceSub, Int.reduceMul, Int.reduceNeg, Nat.reduceAdd, Nat.reduceMul, Nat.add_zero, Nat.mul_zero, Nat.zero_add, am_zb0, am_zb1, e3, e56, er, e1']
        · rw [h0 g gr]; exact g3
        · by_cases c : h r = 0
          · refine g4 h (fun k hk => ?_) h2 (by rw [← h0 h c]; exact h3)
            show h k = if k = r then 0 else p k
            by_cases ck : k = r
            · rw [if_pos ck, ck]; exact c
            · rw [if_neg ck]; exact h1 k (by omega)
          · refine Nat.le_of_lt (cdF_lt (r := r) (fun k hk => ?_) (by omega) n (by omega) (fun k hk => by have := (g2 k hk).1; omega))
            rw [g1 k (by omega), h1 k hk]
            exact if_neg (by omega)
      · have e0' : am_E (d + (m + 1)) 12 0 [(0, .ref 52), (1, .int (am_i (r + 1 : Nat))), (2, .int (am_i need))] [] (am_up I 54 r (am_i (-1)), J, R, 138) = _ := e0
        have nx := x_s56 (d := d) (J := J) (R := R) (m := m) (r := r) (need := need) (t := t) (p := p) hx hn hnb hI0 hfit hfb hr hneed (fun b hb => (hT b hb).1) (fun k hk => (hP k hk).1) hrec 6 0 I' (by omega) fr g1 (fun k hk => by
          rw [g2 k (by omega)]
          show am_i (((if k = r then 0 else p k : Nat) : Int) - 1) = _
          rw [if_neg (by omega)]) (fun h h1 h2 c h3 => by
          have c' : h r = 0 := by omega
          refine g3 h (fun k hk => ?_) h2 (by rw [← h0 h c']; exact h3)
          show h k = if k = r then 0 else p k
          by_cases ck : k = r
          · rw [if_pos ck, ck]; exact c'
          · rw [if_neg ck]; exact h1 k (by omega))
        have ee : am_E (d + (m + 1) + 1) 12 0 [(0, .ref 52), (1, .int (am_i r)), (2, .int (am_i need))] [] (I, J, R, 138) = am_E (d + (m + 1) + 1) 12 56 [(0, .ref 52), (1, .int (am_i r)), (2, .int (am_i need)), (3, .int (am_i 0))] [] (I', J, R, 138) := by
          rw [sg_X2_seat_0]
          simp (disch := first | assumption | omega) only [rX hx, ly_csx, ly_cax, ly_cf, ly_kd, ly_ln, ↓Bool.cond_decide, cond_true, cond_false, ↓bI_p, ↓bV_p, ↓bL_p, bIJ_s, bVJ_s, bLJ_s, ↓am_let_s, Nat.blt, Nat.ble, Bool.and_true, Bool.true_and, Bool.and_self, Int.cast_ofNat_Int, am_i_add, am_i_sub, am_i_mul, am_ok_i, am_i_cl, n_lt, n_le, n_eq, n_lt0, n_le0, n_0lt, n_0le, n_eq0, ne_eq, ↓reduceIte, not_true_eq_false, not_false_eq_true, and_true, true_and, and_false, false_and, eq_T, eq_F, lt_T, lt_F, le_T, le_F, qn_T, qn_F, and_F, b01_T, b01_F, e_isIn, Int32.toInt_toInt64, am_i_toInt, am_l_toInt, Int.toNat_natCast, Int.reduceToNat, Int.reduceAdd, Int.reduceSub, Int.reduceMul, Int.reduceNeg, Nat.reduceAdd, Nat.reduceMul, Nat.add_zero, Nat.mul_zero, Nat.zero_add, am_zb0, am_zb1, e3, e56, er, e0']
        rw [ee]
        exact nx
    · have e : am_E (d + (m + 1) + 1) 12 0 [(0, .ref 52), (1, .int (am_i r)), (2, .int (am_i need))] [] (I, J, R, 138) = some (some (.int (am_i 0)), (I, J, R, 138)) := by
        rw [sg_X2_seat_0]
        simp (disch := first | assumption | omega) only [rX hx, ly_csx, ly_cax, ly_cf, ly_kd, ly_ln, ↓Bool.cond_decide, cond_true, cond_false, ↓bI_p, ↓bV_p, ↓bL_p, bIJ_s, bVJ_s, bLJ_s, ↓am_let_s, Nat.blt, Nat.ble, Bool.and_true, Bool.true_and, Bool.and_self, Int.cast_ofNat_Int, am_i_add, am_i_sub, am_i_mul, am_ok_i, am_i_cl, n_lt, n_le, n_eq, n_lt0, n_le0, n_0lt, n_0le, n_eq0, ne_eq, ↓reduceIte, not_true_eq_false, not_false_eq_true, and_true, true_and, and_false, false_and, eq_T, eq_F, lt_T, lt_F, le_T, le_F, qn_T, qn_F, and_F, b01_T, b01_F, e_isIn, Int32.toInt_toInt64, am_i_toInt, am_l_toInt, Int.toNat_natCast, Int.reduceToNat, Int.reduceAdd, Int.reduceSub, Int.reduceMul, Int.reduceNeg, Nat.reduceAdd, Nat.reduceMul, Nat.add_zero, Nat.mul_zero, Nat.zero_add, am_zb0, am_zb1, e3, e56]
      refine ⟨I, hI, Or.inr ⟨e, fun b hb => (hT b hb).2, fun k hk => (hP k hk).2, fun h h1 h2 h3 => ?_⟩⟩
      have := vF_a (n := n) (F := F) (fit := fit) (f := h) hfit (fun k hk => by have := h2 k hk; omega) (m + 1) r t hr
      omega
end FERRY
