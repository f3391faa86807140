/-! ===== plans: bits; layers of rows ===== -/
def b64 (w : Int64) (k : Nat) : Bool := w.toBitVec.getLsbD k
theorem p64_b {k : Nat} (h : k < 64) : (am_l 1 <<< ((am_i (k : Int)).toInt64 &&& 63)).toBitVec = BitVec.twoPow 64 k := by
  have : ∀ k : Fin 64, (am_l 1 <<< ((am_i (k.val : Int)).toInt64 &&& 63)).toBitVec = BitVec.twoPow 64 k.val := by decide +kernel
  exact this ⟨k, h⟩
theorem lg_e0 (x y : Int64) : lg_cmp x y = 0 ↔ x = y := by
  constructor
  · intro h
    have h1 : ¬ lg_cmp x y < 0 := by rw [h]; decide
    have h2 : ¬ 0 < lg_cmp x y := by rw [h]; decide
    rw [lg_lt] at h1
    rw [lg_gt] at h2
    exact Int64.toInt_inj.mp (by omega)
  · rintro rfl
    have h1 : ¬ lg_cmp x x < 0 := by rw [lg_lt]; omega
    have h2 : ¬ 0 < lg_cmp x x := by rw [lg_gt]; omega
    rw [Int32.lt_iff_toInt_lt] at h1 h2
    have e : (0 : Int32).toInt = 0 := by decide
    exact Int32.toInt_inj.mp (by omega)
theorem b64_0 {w : Int64} {k : Nat} (h : k < 64) : (lg_cmp (w &&& (am_l 1 <<< ((am_i (k : Int)).toInt64 &&& 63))) (am_l 0) = 0) = (b64 w k = false) := by
  apply propext
  rw [lg_e0, ← Int64.toBitVec_inj, Int64.toBitVec_and, p64_b h, BitVec.and_twoPow]
  have z : (am_l 0).toBitVec = 0#64 := by decide
  rw [z]
  unfold b64
  cases e : w.toBitVec.getLsbD k with
  | false => simp
  | true =>
    simp only [if_true, Bool.true_eq_false, iff_false]
    intro q
    have := congrArg (fun x => BitVec.getLsbD x k) q
    simp only [BitVec.getLsbD_twoPow, h] at this
    simp at this
theorem b64_or {w : Int64} {k j : Nat} (h : k < 64) : b64 (w ||| (am_l 1 <<< ((am_i (k : Int)).toInt64 &&& 63))) j = (b64 w j || decide (k = j)) := by
  unfold b64
  rw [Int64.toBitVec_or, p64_b h, BitVec.getLsbD_or, BitVec.getLsbD_twoPow]
  simp [h]
theorem pk_or {r m t : Nat} (hm : m < 64) (ht : t < 128) : (r * 2 ^ 13 ||| m * 2 ^ 7) ||| t = r * 8192 + m * 128 + t := by
  have h1 := Nat.two_pow_add_eq_or_of_lt (i := 7) (b := t) (by omega) m
  have h2 := Nat.two_pow_add_eq_or_of_lt (i := 13) (b := 2 ^ 7 * m + t) (by omega) r
  rw [Nat.or_assoc, Nat.mul_comm m, Nat.mul_comm r, ← h1, ← h2]
  omega
theorem pk_i {r m t : Nat} (hm : m < 64) (ht : t < 128) : ((am_i (r : Int) <<< (am_i 13 &&& 31)) ||| (am_i (m : Int) <<< (am_i 7 &&& 31))) ||| am_i (t : Int) = am_i ((r * 8192 + m * 128 + t : Nat) : Int) := by
  have e13 : am_i 13 &&& 31 = am_i ((13 : Nat) : Int) := by decide
  have e7 : am_i 7 &&& 31 = am_i ((7 : Nat) : Int) := by decide
  rw [e13, e7, s_shl (by omega), s_shl (by omega), s_or, s_or, pk_or hm ht]
theorem up_m {P : Nat} (h : P < 2147483648) : (am_i (P : Int) >>> (am_i 7 &&& 31)) &&& am_i 63 = am_i ((P / 128 % 64 : Nat) : Int) := by
  have e7 : am_i 7 &&& 31 = am_i ((7 : Nat) : Int) := by decide
  have e63 : am_i 63 = am_i ((2 ^ 6 - 1 : Nat) : Int) := by decide
  rw [e7, e63, s_shr h (by omega), s_2]
theorem up_t {P : Nat} : am_i (P : Int) &&& am_i 127 = am_i ((P % 128 : Nat) : Int) := by
  have e : am_i 127 = am_i ((2 ^ 7 - 1 : Nat) : Int) := by decide
  rw [e, s_2]
theorem up_c {P v : Nat} (h : P < 2147483648) (hv : v < 8) : ((am_i (P : Int) >>> (am_i 13 &&& 31)) <<< (am_i 3 &&& 31)) ||| am_i (v : Int) = am_i ((P / 8192 * 8 + v : Nat) : Int) := by
  have e13 : am_i 13 &&& 31 = am_i ((13 : Nat) : Int) := by decide
  have e3 : am_i 3 &&& 31 = am_i ((3 : Nat) : Int) := by decide
  have h1 := Nat.two_pow_add_eq_or_of_lt (i := 3) (b := v) (by omega) (P / 8192)
  rw [e13, e3, s_shr h (by omega), s_shl (by omega), s_or, show P / 2 ^ 13 = P / 8192 from rfl, Nat.mul_comm (P / 8192), ← h1]
theorem cd_b {f : Nat → Nat} : ∀ n, (∀ k, k < n → f k ≤ 7) → cdF 8 f n < 8 ^ n
  | 0, _ => Nat.zero_lt_one
  | n + 1, h => by
    have h1 := cd_b n (fun k hk => h k (by omega))
    have h2 := h n (by omega)
    show cdF 8 f n * 8 + f n < 8 ^ (n + 1)
    rw [Nat.pow_succ]
    omega
theorem cd_d {f : Nat → Nat} : ∀ n k, k < n → (∀ k, k < n → f k ≤ 7) → cdF 8 f n / 8 ^ (n - 1 - k) % 8 = f k
  | 0, k, hk, _ => by omega
  | n + 1, k, hk, h => by
    have h2 := h n (by omega)
    have e : cdF 8 f (n + 1) = cdF 8 f n * 8 + f n := rfl
    by_cases c : k = n
    · subst c
      have h3 := h k (by omega)
      rw [e, show k + 1 - 1 - k = 0 by omega, Nat.pow_zero, Nat.div_one]
      omega
    · have ih := cd_d (f := f) n k (by omega) (fun k hk => h k (by omega))
      rw [e, show n + 1 - 1 - k = n - 1 - k + 1 by omega, Nat.pow_succ, Nat.mul_comm (8 ^ (n - 1 - k)), ← Nat.div_div_eq_div_mul, show (cdF 8 f n * 8 + f n) / 8 = cdF 8 f n by omega]
      exact ih
/-- layers -/
abbrev qent : Type := Nat × Nat × Nat
def eS (x0 : bt) (e : qent) (j : Nat) : bt := (e.1, e.2.1, x0.ro - j, 0, x0.pl, x0.sc)
def nrS (tg m k : Nat) : Prop := m ≤ tg + 9 * k ∧ tg ≤ m + 9 * k
def lyS (last : Nat) (bw : bt → Nat → bt) (x0 : bt) (E : Nat → qent) (j q : Nat) : Prop := ∃ f : Nat → Nat, (∀ k, k < j → f k ≤ 7) ∧ cdF 8 f j = (E q).2.2 ∧ aF last bw x0 f (j + 1) = true ∧ yF bw x0 f j = eS x0 (E q) j
def lyO (last : Nat) (bw : bt → Nat → bt) (x0 : bt) (tg : Nat) (E : Nat → qent) (a e j : Nat) : Prop := (∀ q, a ≤ q → q < e → lyS last bw x0 E j q) ∧ (∀ q q', a ≤ q → q < q' → q' < e → (E q).2.2 < (E q').2.2) ∧ ∀ f : Nat → Nat, (∀ k, k < j → f k ≤ 7) → aF last bw x0 f (j + 1) = true → nrS tg (yF bw x0 f j).mi (5 - j) → ∃ q, a ≤ q ∧ q < e ∧ yF bw x0 f j = eS x0 (E q) j ∧ (E q).2.2 ≤ cdF 8 f j
/-- what has been gone through: the notes of entries below i, and of i those below v -/
def dnS (i v i' v' : Nat) : Prop := v' < 8 ∧ (i' < i ∨ (i' = i ∧ v' < v))
def nwS (last : Nat) (bw : bt → Nat → bt) (x0 : bt) (tg : Nat) (E : Nat → qent) (a e j i v t : Nat) : Prop :=
  (∀ q, e ≤ q → q < t → lyS last bw x0 E (j + 1) q) ∧ (∀ q q', e ≤ q → q < q' → q' < t → (E q).2.2 < (E q').2.2) ∧ (∀ q, e ≤ q → q < t → ∃ i' v', a ≤ i' ∧ i' < e ∧ dnS i v i' v' ∧ (E q).2.2 = (E i').2.2 * 8 + v') ∧
  ∀ i' v', a ≤ i' → i' < e → dnS i v i' v' → (bw (eS x0 (E i') j) v').su = 0 → (bw (eS x0 (E i') j) v').mi ≠ tg ∧ ((bw (eS x0 (E i') j) v').mi ≠ last → nrS tg (bw (eS x0 (E i') j) v').mi (4 - j) → ∃ q, e ≤ q ∧ q < t ∧ eS x0 (E q) (j + 1) = bw (eS x0 (E i') j) v' ∧ (E q).2.2 ≤ (E i').2.2 * 8 + v')
/-- what holds of a note: rosin, place and score; how far -/
def bwOK (last : Nat) (bw : bt → Nat → bt) : Prop := ∀ y v, (bw y v).ro = y.ro - 1 ∧ (bw y v).pl = y.pl ∧ (bw y v).sc = y.sc ∧ (y.mi ≤ last → (bw y v).mi ≤ last ∧ (bw y v).mi ≤ y.mi + 9 ∧ y.mi ≤ (bw y v).mi + 9)
section LAY
variable {last tg : Nat} {bw : bt → Nat → bt} {x0 : bt} {E E' : Nat → qent} {a e j i v t : Nat}
theorem bt_e {x : bt} {mi ti ro su pl : Nat} {sc : Nat → Nat} (h1 : x.mi = mi) (h2 : x.ti = ti) (h3 : x.ro = ro) (h4 : x.su = su) (h5 : x.pl = pl) (h6 : x.sc = sc) : x = (mi, ti, ro, su, pl, sc) := by
  obtain ⟨a, b, c, d, e, f⟩ := x
  subst h1; subst h2; subst h3; subst h4; subst h5; subst h6
  rfl
theorem yF_f (hw : bwOK last bw) (f : Nat → Nat) : ∀ j, (yF bw x0 f j).ro = x0.ro - j ∧ (yF bw x0 f j).pl = x0.pl ∧ (yF bw x0 f j).sc = x0.sc
  | 0 => ⟨rfl, rfl, rfl⟩
  | j + 1 => by
    obtain ⟨h1, h2, h3⟩ := yF_f hw f j
    obtain ⟨w1, w2, w3, -⟩ := hw (yF bw x0 f j) (f j)
    refine ⟨?_, ?_, ?_⟩
    · show (bw (yF bw x0 f j) (f j)).ro = _
      rw [w1, h1]; omega
    · show (bw (yF bw x0 f j) (f j)).pl = _
      rw [w2, h2]
    · show (bw (yF bw x0 f j) (f j)).sc = _
      rw [w3, h3]
theorem yF_l (hw : bwOK last bw) (h0 : x0.mi ≤ last) (f : Nat → Nat) : ∀ j, (yF bw x0 f j).mi ≤ last
  | 0 => h0
  | j + 1 => ((hw (yF bw x0 f j) (f j)).2.2.2 (yF_l hw h0 f j)).1
/-- a note more behind an entry -/
theorem cn_e (hw : bwOK last bw) {q : Nat} (h : (bw (eS x0 (E q) j) v).su = 0) : bw (eS x0 (E q) j) v = eS x0 ((bw (eS x0 (E q) j) v).mi, (bw (eS x0 (E q) j) v).ti, 0) (j + 1) := by
  obtain ⟨w1, w2, w3, -⟩ := hw (eS x0 (E q) j) v
  refine bt_e rfl rfl ?_ h ?_ ?_
  · rw [w1]
    show x0.ro - j - 1 = x0.ro - (j + 1)
    omega
  · exact w2
  · exact w3
theorem ext_f {f : Nat → Nat} (hf : ∀ k, k < j → f k ≤ 7) (hv : v < 8) : ∃ g : Nat → Nat, (∀ k, k < j + 1 → g k ≤ 7) ∧ (∀ k, k < j → f k = g k) ∧ g j = v := by
  refine ⟨fun k => if k = j then v else f k, fun k hk => ?_, fun k hk => ?_, if_pos rfl⟩
  · show (if k = j then v else f k) ≤ 7
    split
    · omega
    · exact hf k (by omega)
  · show _ = (if k = j then v else f k)
    rw [if_neg (by omega)]
theorem ly_n {q : Nat} (hS : lyS last bw x0 E j q) (hv : v < 8) : ∃ g : Nat → Nat, (∀ k, k < j + 1 → g k ≤ 7) ∧ cdF 8 g (j + 1) = (E q).2.2 * 8 + v ∧ aF last bw x0 g (j + 1) = true ∧ yF bw x0 g (j + 1) = bw (eS x0 (E q) j) v := by
  obtain ⟨f, f1, f2, f3, f4⟩ := hS
  obtain ⟨g, g1, g2, g3⟩ := ext_f f1 hv
  refine ⟨g, g1, ?_, ?_, ?_⟩
  · show cdF 8 g j * 8 + g j = _
    rw [← cdF_c j g2, f2, g3]
  · rw [aF_1] at f3 ⊢
    rw [← aF_c j g2, ← yF_c j g2]
    exact f3
  · show bw (yF bw x0 g j) (g j) = _
    rw [← yF_c j g2, f4, g3]
/-- a plan of one note more comes by an entry -/
theorem ly_p (hw : bwOK last bw) (h0 : x0.mi ≤ last) (hL : lyO last bw x0 tg E a e j) (hj : j ≤ 4) {h : Nat → Nat} (hh : ∀ k, k < j + 1 → h k ≤ 7) (hp : pF last bw x0 tg h (j + 1) = true) : ∃ q, a ≤ q ∧ q < e ∧ (bw (eS x0 (E q) j) (h j)).mi = tg ∧ (bw (eS x0 (E q) j) (h j)).su = 0 ∧ (E q).2.2 * 8 + h j ≤ cdF 8 h (j + 1) := by
  obtain ⟨p1, p2, p3⟩ := pF_1.mp hp
  have yl := yF_l (x0 := x0) hw h0 h j
  obtain ⟨d1, d2, d3⟩ := (hw (yF bw x0 h j) (h j)).2.2.2 yl
  have p2' : (bw (yF bw x0 h j) (h j)).mi = tg := p2
  have p3' : (bw (yF bw x0 h j) (h j)).su = 0 := p3
  obtain ⟨q, q1, q2, q3, q4⟩ := hL.2.2 h (fun k hk => hh k (by omega)) p1 (by unfold nrS; omega)
  refine ⟨q, q1, q2, by rw [← q3]; exact p2', by rw [← q3]; exact p3', ?_⟩
  show _ ≤ cdF 8 h j * 8 + h j
  omega
theorem nw_p (hw : bwOK last bw) (h0 : x0.mi ≤ last) (hL : lyO last bw x0 tg E a e j) (hj : j ≤ 4) (hN : nwS last bw x0 tg E a e j i v t) (hi : a ≤ i) (hie : i < e) (hv : v < 8) {h : Nat → Nat} (hh : ∀ k, k < j + 1 → h k ≤ 7) (hp : pF last bw x0 tg h (j + 1) = true) : (E i).2.2 * 8 + v ≤ cdF 8 h (j + 1) := by
  obtain ⟨q, q1, q2, q3, q4, q5⟩ := ly_p hw h0 hL hj hh hp
  have h7 := hh j (by omega)
  by_cases c : (E i).2.2 * 8 + v ≤ cdF 8 h (j + 1)
  · exact c
  · have dn : dnS i v q (h j) := by
      refine ⟨by omega, ?_⟩
      rcases Nat.lt_trichotomy q i with k | k | k
      · exact Or.inl k
      · subst k; exact Or.inr ⟨rfl, by omega⟩
      · have := hL.2.1 i q hi k q2
        omega
    exact absurd q3 (hN.2.2.2 q (h j) q1 q2 dn q4).1
theorem nw_n (hw : bwOK last bw) (h0 : x0.mi ≤ last) (hL : lyO last bw x0 tg E a e j) (hj : j ≤ 4) (hN : nwS last bw x0 tg E a e j e 0 t) {h : Nat → Nat} (hh : ∀ k, k < j + 1 → h k ≤ 7) : pF last bw x0 tg h (j + 1) = false := by
  cases hp : pF last bw x0 tg h (j + 1) with
  | false => rfl
  | true =>
    obtain ⟨q, q1, q2, q3, q4, q5⟩ := ly_p hw h0 hL hj hh hp
    have h7 := hh j (by omega)
    exact absurd q3 (hN.2.2.2 q (h j) q1 q2 ⟨by omega, Or.inl q2⟩ q4).1
theorem nw_l (hw : bwOK last bw) (h0 : x0.mi ≤ last) (hL : lyO last bw x0 tg E a e j) (hj : j ≤ 4) (hN : nwS last bw x0 tg E a e j e 0 t) : lyO last bw x0 tg E e t (j + 1) := by
  refine ⟨hN.1, hN.2.1, fun f hf ha hn => ?_⟩
  obtain ⟨a1, a2, a3⟩ := aF_1.mp ha
  have yl := yF_l (x0 := x0) hw h0 f j
  obtain ⟨d1, d2, d3⟩ := (hw (yF bw x0 f j) (f j)).2.2.2 yl
  have hn' : nrS tg (bw (yF bw x0 f j) (f j)).mi (5 - (j + 1)) := hn
  unfold nrS at hn'
  obtain ⟨q, q1, q2, q3, q4⟩ := hL.2.2 f (fun k hk => hf k (by omega)) a1 (by unfold nrS; omega)
  have h7 := hf j (by omega)
  have ye : yF bw x0 f (j + 1) = bw (eS x0 (E q) j) (f j) := by
    show bw (yF bw x0 f j) (f j) = _
    rw [q3]
  rw [ye] at a2 a3
  obtain ⟨-, k2⟩ := hN.2.2.2 q (f j) q1 q2 ⟨by omega, Or.inl q2⟩ a2
  obtain ⟨q', r1, r2, r3, r4⟩ := k2 a3 (by unfold nrS; rw [← q3]; omega)
  refine ⟨q', r1, r2, by rw [ye, r3], ?_⟩
  show _ ≤ cdF 8 f j * 8 + f j
  omega
theorem nw_0 : nwS last bw x0 tg E a e j a 0 e := ⟨fun q h1 h2 => by omega, fun q q' h1 h2 h3 => by omega, fun q h1 h2 => by omega, fun i' v' h1 h2 h3 => by
  obtain ⟨-, h3⟩ := h3
  omega⟩
/-- behind the eighth note comes the next entry -/
theorem nw_8 (h : nwS last bw x0 tg E a e j i 8 t) : nwS last bw x0 tg E a e j (i + 1) 0 t := by
  have dd : ∀ i' v', dnS (i + 1) 0 i' v' ↔ dnS i 8 i' v' := fun i' v' => by unfold dnS; omega
  obtain ⟨h1, h2, h3, h4⟩ := h
  refine ⟨h1, h2, fun q q1 q2 => ?_, fun i' v' q1 q2 q3 => h4 i' v' q1 q2 ((dd _ _).mp q3)⟩
  obtain ⟨i', v', k1, k2, k3, k4⟩ := h3 q q1 q2
  exact ⟨i', v', k1, k2, (dd _ _).mpr k3, k4⟩
/-- a note is gone through, and nothing is added -/
theorem nw_s (hi : a ≤ i) (hie : i < e) (hv : v < 8) (h : nwS last bw x0 tg E a e j i v t) (hc : (bw (eS x0 (E i) j) v).su = 0 → (bw (eS x0 (E i) j) v).mi ≠ tg ∧ ((bw (eS x0 (E i) j) v).mi ≠ last → nrS tg (bw (eS x0 (E i) j) v).mi (4 - j) → ∃ q, e ≤ q ∧ q < t ∧ eS x0 (E q) (j + 1) = bw (eS x0 (E i) j) v ∧ (E q).2.2 ≤ (E i).2.2 * 8 + v)) : nwS last bw x0 tg E a e j i (v + 1) t := by
  obtain ⟨h1, h2, h3, h4⟩ := h
  refine ⟨h1, h2, fun q q1 q2 => ?_, fun i' v' q1 q2 q3 => ?_⟩
  · obtain ⟨i', v', k1, k2, k3, k4⟩ := h3 q q1 q2
    exact ⟨i', v', k1, k2, by unfold dnS at k3 ⊢; omega, k4⟩
  · by_cases c : i' = i ∧ v' = v
    · obtain ⟨rfl, rfl⟩ := c
      exact hc
    · exact h4 i' v' q1 q2 (by unfold dnS at q3 ⊢; omega)
/-- met already -/
theorem nw_m (hw : bwOK last bw) (hL : lyO last bw x0 tg E a e j) (hi : a ≤ i) (hie : i < e) (hv : v < 8) (h : nwS last bw x0 tg E a e j i v t) (hs : (bw (eS x0 (E i) j) v).su = 0) (hg : (bw (eS x0 (E i) j) v).mi ≠ tg) {q : Nat} (q1 : e ≤ q) (q2 : q < t) (e1 : (E q).1 = (bw (eS x0 (E i) j) v).mi) (e2 : (E q).2.1 = (bw (eS x0 (E i) j) v).ti) : nwS last bw x0 tg E a e j i (v + 1) t := by
  refine nw_s hi hie hv h (fun _ => ⟨hg, fun _ _ => ⟨q, q1, q2, ?_, ?_⟩⟩)
  · rw [cn_e hw hs]
    show ((E q).1, (E q).2.1, x0.ro - (j + 1), 0, x0.pl, x0.sc) = _
    rw [e1, e2]
    rfl
  · obtain ⟨i', v', k1, k2, ⟨k3, k4⟩, k5⟩ := h.2.2.1 q q1 q2
    rw [k5]
    rcases k4 with k4 | ⟨rfl, k4⟩
    · have := hL.2.1 i' i k1 k4 hie
      omega
    · omega
theorem ly_c (he : ∀ q, q < e → E' q = E q) (h : lyO last bw x0 tg E a e j) : lyO last bw x0 tg E' a e j := by
  obtain ⟨h1, h2, h3⟩ := h
  refine ⟨fun q q1 q2 => ?_, fun q q' q1 q2 q3 => ?_, fun f hf ha hn => ?_⟩
  · unfold lyS
    rw [he q q2]
    exact h1 q q1 q2
  · rw [he q (by omega), he q' q3]
    exact h2 q q' q1 q2 q3
  · obtain ⟨q, q1, q2, q3, q4⟩ := h3 f hf ha hn
    exact ⟨q, q1, q2, by rw [he q q2]; exact q3, by rw [he q q2]; exact q4⟩
/-- one more -/
theorem nw_a (hw : bwOK last bw) (hL : lyO last bw x0 tg E a e j) (hi : a ≤ i) (hie : i < e) (hv : v < 8) (het : e ≤ t) (h : nwS last bw x0 tg E a e j i v t) (hs : (bw (eS x0 (E i) j) v).su = 0) (hg : (bw (eS x0 (E i) j) v).mi ≠ tg) (hl : (bw (eS x0 (E i) j) v).mi ≠ last) (he : ∀ q, q < t → E' q = E q) (ht : E' t = ((bw (eS x0 (E i) j) v).mi, (bw (eS x0 (E i) j) v).ti, (E i).2.2 * 8 + v)) : nwS last bw x0 tg E' a e j i (v + 1) (t + 1) := by
  obtain ⟨h1, h2, h3, h4⟩ := h
  have hlt : ∀ q, e ≤ q → q < t → (E q).2.2 < (E i).2.2 * 8 + v := fun q q1 q2 => by
    obtain ⟨i', v', k1, k2, ⟨k3, k4⟩, k5⟩ := h3 q q1 q2
    rw [k5]
    rcases k4 with k4 | ⟨rfl, k4⟩
    · have := hL.2.1 i' i k1 k4 hie
      omega
    · omega
  refine ⟨fun q q1 q2 => ?_, fun q q' q1 q2 q3 => ?_, fun q q1 q2 => ?_, fun i' v' q1 q2 q3 => ?_⟩
  · by_cases c : q = t
    · subst c
      obtain ⟨g, g1, g2, g3, g4⟩ := ly_n (hL.1 i hi hie) hv
      refine ⟨g, g1, by rw [ht]; exact g2, aF_1.mpr ⟨g3, by rw [g4]; exact hs, by rw [g4]; exact hl⟩, ?_⟩
      rw [g4, ht, cn_e hw hs]
      rfl
    · unfold lyS
      rw [he q (by omega)]
      exact h1 q q1 (by omega)
  · by_cases c : q' = t
    · subst c
      rw [he q q2, ht]
      exact hlt q q1 q2
    · rw [he q (by omega), he q' (by omega)]
      exact h2 q q' q1 q2 (by omega)
  · by_cases c : q = t
    · subst c
      refine ⟨i, v, hi, hie, ⟨hv, Or.inr ⟨rfl, by omega⟩⟩, ?_⟩
      rw [ht, he i (by omega)]
    · obtain ⟨i', v', k1, k2, k3, k4⟩ := h3 q q1 (by omega)
      refine ⟨i', v', k1, k2, by unfold dnS at k3 ⊢; omega, ?_⟩
      rw [he q (by omega), he i' (by omega)]
      exact k4
  · rw [he i' (by omega)]
    intro hs'
    by_cases c : i' = i ∧ v' = v
    · obtain ⟨rfl, rfl⟩ := c
      refine ⟨hg, fun _ _ => ⟨t, het, by omega, ?_, ?_⟩⟩
      · rw [ht, cn_e hw hs]
        rfl
      · rw [ht]
        exact Nat.le_refl _
    · obtain ⟨k1, k2⟩ := h4 i' v' q1 q2 (by unfold dnS at q3 ⊢; omega) hs'
      refine ⟨k1, fun a1 a2 => ?_⟩
      obtain ⟨q, r1, r2, r3, r4⟩ := k2 a1 a2
      exact ⟨q, r1, by omega, by rw [he q r2]; exact r3, by rw [he q r2]; exact r4⟩
end LAY
