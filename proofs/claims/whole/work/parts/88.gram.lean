/-! ===== the grammar of formulas ===== -/
/-- error (0: none), its place or where it goes on, the tokens -/
abbrev pR : Type := Nat × Nat × List tok
def pB (r : pR) (k : Nat → pR) : pR := if r.1 = 0 then ((k r.2.1).1, (k r.2.1).2.1, r.2.2 ++ (k r.2.1).2.2) else r
def pA (r : Nat × Nat) : pR := (r.1, r.2, [])
def pT (p : Nat) (l : List tok) : pR := (0, p, l)
/-- which words tell a number: so 0 carry, 1 slips, 2 swamp, 3 a question -/
def vlB (so : Nat) (w : Int) : Bool := decide (w = 14 ∨ w = 3 ∨ w = 4 ∨ w = 15 ∨ w = 12 ∨ (so = 2 ∧ w = 16) ∨ (so = 3 ∧ (w = 17 ∨ w = 18 ∨ w = 19)))
/-- 0 part, 1 product, 2 its rest, 3 sum, 4 its rest, 5 fact, 6 both, 7 its rest, 8 test, 9 its rest; o: how many are open -/
def pG (T : Nat → Nat) (n so : Nat) : Nat → Nat → Nat → Nat → pR
  | 0, _, _, _ => (9, 0, [])
  | f + 1, md, o, p =>
    if md = 0 then
      if tK T n p = 2 then ((aN T n p 0 9999).1, (aN T n p 0 9999).2, [(0, tV T n p)])
      else if tSg T n p = 40 then (if 6 ≤ o then (4, tAt T n p, []) else pB (pG T n so f 3 (o + 1) (tE T n p)) (fun p1 => pA (aS T n p1 41)))
      else if tW T n p = 24 ∨ tW T n p = 25 then
        (if tSg T n (tE T n p) = 40 then (if 6 ≤ o then (4, tAt T n (tE T n p), []) else pB (pG T n so f 3 (o + 1) (tE T n (tE T n p))) (fun p1 => pB (pA (aS T n p1 44)) (fun p2 => pB (pG T n so f 3 (o + 1) p2) (fun p3 => pB (pA (aS T n p3 41)) (fun p4 => pT p4 [(3, (tW T n p).toNat)]))))) else (1, tAt T n (tE T n p), []))
      else if so = 3 ∧ (tW T n p = 9 ∨ tW T n p = 5) then (if 6 ≤ o then (4, tAt T n p, []) else pB (pG T n so f 0 (o + 1) (tE T n p)) (fun p1 => pT p1 [(5, (tW T n p).toNat)]))
      else if vlB so (tW T n p) = true then pT (tE T n p) [(1, (tW T n p).toNat)]
      else (1, tAt T n p, [])
    else if md = 1 then pB (pG T n so f 0 o p) (fun p1 => pG T n so f 2 o p1)
    else if md = 2 then (if tSg T n p = 42 ∨ tSg T n p = 47 then pB (pG T n so f 0 o (tE T n p)) (fun p1 => pB (pT p1 [(3, (tSg T n p).toNat)]) (fun p2 => pG T n so f 2 o p2)) else pT p [])
    else if md = 3 then pB (pG T n so f 1 o p) (fun p1 => pG T n so f 4 o p1)
    else if md = 4 then (if tSg T n p = 43 ∨ tSg T n p = 45 then pB (pG T n so f 1 o (tE T n p)) (fun p1 => pB (pT p1 [(3, (tSg T n p).toNat)]) (fun p2 => pG T n so f 4 o p2)) else pT p [])
    else if md = 5 then
      if tW T n p = 22 then (if 6 ≤ o then (4, tAt T n p, []) else pB (pG T n so f 5 (o + 1) (tE T n p)) (fun p1 => pT p1 [(2, 0)]))
      else if tSg T n p = 91 then (if 6 ≤ o then (4, tAt T n p, []) else pB (pG T n so f 8 (o + 1) (tE T n p)) (fun p1 => pA (aS T n p1 93)))
      else if tW T n p = 23 then pT (tE T n p) [(4, 0)]
      else pB (pG T n so f 3 o p) (fun p1 => if tSg T n p1 = 60 ∨ tSg T n p1 = 62 ∨ tSg T n p1 = 61 then pB (pG T n so f 3 o (tE T n p1)) (fun p2 => pT p2 [(3, (tSg T n p1).toNat)]) else (1, tAt T n p1, []))
    else if md = 6 then pB (pG T n so f 5 o p) (fun p1 => pG T n so f 7 o p1)
    else if md = 7 then (if tW T n p = 21 then pB (pG T n so f 5 o (tE T n p)) (fun p1 => pB (pT p1 [(3, 21)]) (fun p2 => pG T n so f 7 o p2)) else pT p [])
    else if md = 8 then pB (pG T n so f 6 o p) (fun p1 => pG T n so f 9 o p1)
    else (if tW T n p = 20 then pB (pG T n so f 6 o (tE T n p)) (fun p1 => pB (pT p1 [(3, 20)]) (fun p2 => pG T n so f 9 o p2)) else pT p [])
/-- what kind of value a mode leaves: 0 nothing new (a rest), else the kind; how high the pile may become -/
def mdT (md : Nat) : Bool := decide (5 ≤ md)
def mdR (md : Nat) : Bool := decide (md = 2 ∨ md = 4 ∨ md = 7 ∨ md = 9)
def mdD (md o : Nat) : Nat := (if md = 0 then 1 else if md = 1 ∨ md = 2 then 2 else if md = 3 ∨ md = 4 then 3 else if md = 5 then 4 else if md = 6 ∨ md = 7 then 5 else 6) + 3 * (6 - o)
theorem tokOK_a {l1 l2 : List tok} : ∀ {st s1 : List Bool}, tokOK st l1 = some s1 → tokOK st (l1 ++ l2) = tokOK s1 l2 := by
  induction l1 with
  | nil => intro st s1 h; have : st = s1 := by simpa [tokOK] using h
           subst this; rfl
  | cons t l ih =>
    intro st s1 h
    simp only [List.cons_append, tokOK] at h ⊢
    cases hD : tokD st t with
    | none => rw [hD] at h; cases h
    | some st' =>
      rw [hD] at h
      simp only at h ⊢
      split at h
      · next q => rw [if_pos q]; exact ih h
      · cases h
/-- what a result promises: progress (s), room (z), tokens that fit -/
def qO (n so p s z D : Nat) (s0 s1 : List Bool → List Bool) (r : pR) : Prop := r.1 < 9 ∧ (r.1 = 0 → p + s ≤ r.2.1 ∧ r.2.1 ≤ n ∧ r.2.2.length + p + z ≤ r.2.1 ∧ (∀ t ∈ r.2.2, tokW (so == 3) (so == 2) t) ∧ ∀ st : List Bool, st.length + D ≤ 63 → tokOK (s0 st) r.2.2 = some (s1 st)) ∧ (r.1 ≠ 0 → r.2.1 ≤ n + 10)
def pOK (n so md o p : Nat) (r : pR) : Prop := qO n so p (if mdR md = true then 0 else 1) 0 (mdD md o) (fun st => if mdR md = true then mdT md :: st else st) (fun st => mdT md :: st) r
section GRAM
variable {T : Nat → Nat} {n so : Nat}
theorem pB_0 {r : pR} {k : Nat → pR} (h : r.1 = 0) : pB r k = ((k r.2.1).1, (k r.2.1).2.1, r.2.2 ++ (k r.2.1).2.2) := if_pos h
theorem pB_n {r : pR} {k : Nat → pR} (h : r.1 ≠ 0) : pB r k = r := if_neg h
/-- emitted behind, and on -/
theorem pB_as {r : pR} {l : List tok} {k : Nat → pR} : pB (pB r (fun p1 => pT p1 l)) k = pB r (fun p1 => pB (pT p1 l) k) := by
  by_cases q : r.1 = 0
  · have e : pB r (fun p1 => pT p1 l) = (0, r.2.1, r.2.2 ++ l) := pB_0 q
    rw [e, pB_0 rfl, pB_0 q, pB_0 rfl]
    show ((k r.2.1).1, (k r.2.1).2.1, (r.2.2 ++ l) ++ (k r.2.1).2.2) = ((k r.2.1).1, (k r.2.1).2.1, r.2.2 ++ (l ++ (k r.2.1).2.2))
    rw [List.append_assoc]
  · rw [pB_n q, pB_n q, pB_n q]
theorem tE_s {p : Nat} (hp : p ≤ n) (h : tK T n p ≠ 0) : p < tE T n p ∧ tE T n p ≤ n := by
  have h1 := tAt_b (T := T) hp
  have h2 := tE_b (T := T) hp
  have : tAt T n p < n := by
    by_cases c : tAt T n p < n
    · exact c
    · exact absurd (tK_0.mpr (by omega)) h
  have := h2.2.2 this
  omega
theorem tW_0 {p : Nat} (h : 0 ≤ tW T n p) : tK T n p ≠ 0 := by
  unfold tW at h
  split at h
  · omega
  · omega
theorem tSg_0 {p : Nat} (h : 0 ≤ tSg T n p) : tK T n p ≠ 0 := by
  unfold tSg at h
  split at h
  · omega
  · omega
theorem aS_b {p c : Nat} (hp : p ≤ n) : ((aS T n p c).1 = 0 → tSg T n p = c ∧ (aS T n p c).2 = tE T n p ∧ p < (aS T n p c).2 ∧ (aS T n p c).2 ≤ n) ∧ (aS T n p c).1 ≤ 1 ∧ (aS T n p c).2 ≤ n := by
  unfold aS
  by_cases q : tSg T n p = c
  · rw [if_pos q]
    have := tE_s hp (tSg_0 (T := T) (n := n) (p := p) (by omega))
    exact ⟨fun _ => ⟨q, rfl, this⟩, by show 0 ≤ 1; omega, this.2⟩
  · rw [if_neg q]
    exact ⟨fun h => absurd h (by show ¬ (1 = 0); omega), by show 1 ≤ 1; omega, (tAt_b hp).2⟩
theorem tokOK_1 {st : List Bool} {t : tok} {s1 : List Bool} (h : tokD st t = some s1) (hl : s1.length ≤ 63) : tokOK st [t] = some s1 := by
  simp only [tokOK, h]
  rw [if_pos hl]
theorem qO_B {p s z s' z' D : Nat} {s0 s1 s2 : List Bool → List Bool} {r : pR} {k : Nat → pR} (h : qO n so p s z D s0 s1 r) (hk : r.1 = 0 → r.2.1 ≤ n → p + s ≤ r.2.1 → qO n so r.2.1 s' z' D s1 s2 (k r.2.1)) : qO n so p s (z + z') D s0 s2 (pB r k) := by
  by_cases q : r.1 = 0
  · obtain ⟨-, h2, -⟩ := h
    obtain ⟨a1, a2, a3, a4, a5⟩ := h2 q
    obtain ⟨b1, b2, b3⟩ := hk q a2 a1
    rw [pB_0 q]
    refine ⟨b1, fun e => ?_, b3⟩
    obtain ⟨c1, c2, c3, c4, c5⟩ := b2 e
    refine ⟨by show p + s ≤ (k r.2.1).2.1; omega, c2, by show (r.2.2 ++ (k r.2.1).2.2).length + p + (z + z') ≤ (k r.2.1).2.1; rw [List.length_append]; omega, fun t ht => ?_, fun st hst => ?_⟩
    · rcases List.mem_append.mp ht with m | m
      · exact a4 t m
      · exact c4 t m
    · show tokOK (s0 st) (r.2.2 ++ (k r.2.1).2.2) = _
      rw [tokOK_a (a5 st hst)]
      exact c5 st hst
  · rw [pB_n q]
    exact ⟨h.1, fun e => absurd e q, h.2.2⟩
theorem qO_w {p q s z D : Nat} {s0 s1 : List Bool → List Bool} {r : pR} (hpq : p + 1 ≤ q) (h : qO n so q s z D s0 s1 r) : qO n so p 1 (z + 1) D s0 s1 r := by
  obtain ⟨h1, h2, h3⟩ := h
  refine ⟨h1, fun e => ?_, h3⟩
  obtain ⟨a1, a2, a3, a4, a5⟩ := h2 e
  exact ⟨by omega, a2, by omega, a4, a5⟩
theorem qO_E {p s z D : Nat} {s0 s1 s2 : List Bool → List Bool} {r : pR} {t : tok} (h : qO n so p s (z + 1) D s0 s1 r) (hw : tokW (so == 3) (so == 2) t) (ht : ∀ st : List Bool, st.length + D ≤ 63 → tokD (s1 st) t = some (s2 st) ∧ (s2 st).length ≤ 63) : qO n so p s z D s0 s2 (pB r (fun p1 => pT p1 [t])) := by
  by_cases q : r.1 = 0
  · obtain ⟨-, h2, -⟩ := h
    obtain ⟨a1, a2, a3, a4, a5⟩ := h2 q
    rw [pB_0 q]
    refine ⟨by show (0 : Nat) < 9; omega, fun _ => ⟨a1, a2, by show (r.2.2 ++ [t]).length + p + z ≤ r.2.1; rw [List.length_append, List.length_singleton]; omega, fun t' ht' => ?_, fun st hst => ?_⟩, fun e => absurd rfl e⟩
    · rcases List.mem_append.mp ht' with m | m
      · exact a4 t' m
      · have e : t' = t := List.mem_singleton.mp m
        rw [e]; exact hw
    · show tokOK (s0 st) (r.2.2 ++ [t]) = _
      obtain ⟨d1, d2⟩ := ht st hst
      rw [tokOK_a (a5 st hst)]
      exact tokOK_1 d1 d2
  · rw [pB_n q]
    exact ⟨h.1, fun e => absurd e q, h.2.2⟩
theorem qO_e {p s z D e pl : Nat} {s0 s1 : List Bool → List Bool} {l : List tok} (h1 : e ≠ 0) (h2 : e < 9) (h3 : pl ≤ n + 10) : qO n so p s z D s0 s1 (e, pl, l) := ⟨h2, fun h => absurd h h1, fun _ => h3⟩
theorem qO_S {q c D : Nat} {s0 : List Bool → List Bool} (hq : q ≤ n) : qO n so q 1 1 D s0 s0 (pA (aS T n q c)) := by
  obtain ⟨h1, h2, h3⟩ := aS_b (T := T) (c := c) hq
  refine ⟨by show (aS T n q c).1 < 9; omega, fun e => ?_, fun _ => by show (aS T n q c).2 ≤ n + 10; omega⟩
  obtain ⟨a1, a2, a3, a4⟩ := h1 e
  exact ⟨by show q + 1 ≤ (aS T n q c).2; omega, a4, by show 0 + q + 1 ≤ (aS T n q c).2; omega, fun t ht => absurd ht List.not_mem_nil, fun st _ => rfl⟩
theorem qO_m {p s z s' z' D D' : Nat} {s0 s1 : List Bool → List Bool} {r : pR} (h : qO n so p s z D s0 s1 r) (hs : s' ≤ s) (hz : z' ≤ z) (hD : D ≤ D') : qO n so p s' z' D' s0 s1 r := by
  obtain ⟨h1, h2, h3⟩ := h
  refine ⟨h1, fun e => ?_, h3⟩
  obtain ⟨a1, a2, a3, a4, a5⟩ := h2 e
  exact ⟨by omega, a2, by omega, a4, fun st hst => a5 st (by omega)⟩
/-- of a mode, over a pile that bears more -/
theorem qO_i {md o p : Nat} {r : pR} (h : pOK n so md o p r) (pre : List Bool) : qO n so p (if mdR md = true then 0 else 1) 0 (mdD md o + pre.length) (fun st => if mdR md = true then mdT md :: (pre ++ st) else pre ++ st) (fun st => mdT md :: (pre ++ st)) r := by
  obtain ⟨h1, h2, h3⟩ := h
  refine ⟨h1, fun e => ?_, h3⟩
  obtain ⟨a1, a2, a3, a4, a5⟩ := h2 e
  exact ⟨a1, a2, a3, a4, fun st hst => a5 (pre ++ st) (by rw [List.length_append]; omega)⟩
theorem sg_W {so : Nat} {c : Nat} (h : c ∈ [43, 45, 42, 47, 24, 25, 60, 62, 61, 21, 20]) : tokW (so == 3) (so == 2) (3, c) := h
theorem tD3 {st : List Bool} {c : Nat} (h : c ∈ [43, 45, 42, 47, 24, 25]) : tokD (false :: false :: st) (3, c) = some (false :: st) := by
  simp only [List.mem_cons, List.mem_nil_iff, or_false] at h
  rcases h with rfl | rfl | rfl | rfl | rfl | rfl <;> rfl
theorem tD3c {st : List Bool} {c : Nat} (h : c ∈ [60, 62, 61]) : tokD (false :: false :: st) (3, c) = some (true :: st) := by
  simp only [List.mem_cons, List.mem_nil_iff, or_false] at h
  rcases h with rfl | rfl | rfl <;> rfl
theorem tD3t {st : List Bool} {c : Nat} (h : c ∈ [20, 21]) : tokD (true :: true :: st) (3, c) = some (true :: st) := by
  simp only [List.mem_cons, List.mem_nil_iff, or_false] at h
  rcases h with rfl | rfl <;> rfl
theorem pG_ok : ∀ (f md o p : Nat), md ≤ 9 → o ≤ 6 → p ≤ n → 10 * (n - p) + (if mdR md = true then 0 else md) + 1 ≤ f → pOK n so md o p (pG T n so f md o p)
  | 0, md, o, p, _, _, _, hf => by omega
  | f + 1, md, o, p, hmd, ho, hp, hf => by
    have ab := tAt_b (T := T) hp
    have hmd' : md = 0 ∨ md = 1 ∨ md = 2 ∨ md = 3 ∨ md = 4 ∨ md = 5 ∨ md = 6 ∨ md = 7 ∨ md = 8 ∨ md = 9 := by omega
    have IH := fun md o p h1 h2 h3 h4 => pG_ok f md o p h1 h2 h3 h4
    rcases hmd' with rfl | rfl | rfl | rfl | rfl | rfl | rfl | rfl | rfl | rfl
    · -- part
      have hf0 : 10 * (n - p) + 0 + 1 ≤ f + 1 := hf
      show qO n so p 1 0 (1 + 3 * (6 - o)) (fun st => st) (fun st => false :: st) _
      show qO n so p 1 0 (1 + 3 * (6 - o)) (fun st => st) (fun st => false :: st) (if tK T n p = 2 then _ else _)
      by_cases k2 : tK T n p = 2
      · rw [if_pos k2]
        unfold aN
        rw [if_pos k2]
        have es := tE_s hp (show tK T n p ≠ 0 by omega)
        by_cases q4 : 4 < tN T n p
        · rw [if_pos q4]
          exact qO_e (by omega) (by omega) (by omega)
        · rw [if_neg q4]
          have vb : tV T n p < 10000 := by
            have eE := tE_2 k2
            have eV : tV T n p = nvS T (tAt T n p) (tN T n p) := by unfold tV; rw [show min 4 (tN T n p) = tN T n p by omega]
            rw [eV]
            refine Nat.lt_of_lt_of_le (nv_b (fun _ _ _ _ => trivial) (tN T n p) (fun i hi' => ?_)) (Nat.pow_le_pow_right (n := 10) (by omega) (show tN T n p ≤ 4 by omega))
            have hN : tAt T n p + tN T n p = tE T n p := by unfold tN; have := tE_b (T := T) hp; omega
            obtain ⟨-, k⟩ := sp_in (c := dB) (T := T) (n := n) (p := tAt T n p) (q := tAt T n p + i) (by omega) (by omega)
            exact dB_t.mp k
          rw [if_neg (by omega)]
          refine ⟨by show (0 : Nat) < 9; omega, fun _ => ⟨by show p + 1 ≤ tE T n p; omega, es.2, by show 1 + p + 0 ≤ tE T n p; omega, fun t ht => ?_, fun st hst => ?_⟩, fun e => absurd rfl e⟩
          · have e : t = (0, tV T n p) := List.mem_singleton.mp ht
            rw [e]
            show tV T n p ≤ 9999
            omega
          · exact tokOK_1 rfl (by show st.length + 1 ≤ 63; omega)
      · rw [if_neg k2]
        by_cases s40 : tSg T n p = 40
        · rw [if_pos s40]
          have es := tE_s hp (tSg_0 (T := T) (n := n) (p := p) (by omega))
          by_cases o6 : 6 ≤ o
          · rw [if_pos o6]
            exact qO_e (by omega) (by omega) (by omega)
          · rw [if_neg o6]
            have i3 := qO_i (IH 3 (o + 1) (tE T n p) (by omega) (by omega) es.2 (by show 10 * (n - tE T n p) + 3 + 1 ≤ f; omega)) []
            have := qO_B (k := fun p1 => pA (aS T n p1 41)) i3 (fun _ h _ => qO_S (T := T) (c := 41) (s0 := fun st => false :: ([] ++ st)) h)
            exact qO_m (qO_w (p := p) (by omega) this) (by omega) (by omega) (by show 3 + 3 * (6 - (o + 1)) + 0 ≤ 1 + 3 * (6 - o); omega)
        · rw [if_neg s40]
          by_cases w24 : tW T n p = 24 ∨ tW T n p = 25
          · rw [if_pos w24]
            have es := tE_s hp (tW_0 (T := T) (n := n) (p := p) (by omega))
            have ab2 := tAt_b (T := T) es.2
            by_cases s41 : tSg T n (tE T n p) = 40
            · rw [if_pos s41]
              have es2 := tE_s es.2 (tSg_0 (T := T) (n := n) (p := tE T n p) (by omega))
              by_cases o6 : 6 ≤ o
              · rw [if_pos o6]
                exact qO_e (by omega) (by omega) (by omega)
              · rw [if_neg o6]
                have i3 := qO_m (qO_i (IH 3 (o + 1) (tE T n (tE T n p)) (by omega) (by omega) es2.2 (by show 10 * (n - tE T n (tE T n p)) + 3 + 1 ≤ f; omega)) []) (s' := 1) (z' := 0) (D' := 1 + 3 * (6 - o)) (by show 1 ≤ 1; omega) (by omega) (by show 3 + 3 * (6 - (o + 1)) + 0 ≤ 1 + 3 * (6 - o); omega)
                have c : (tW T n p).toNat ∈ [43, 45, 42, 47, 24, 25] := by rcases w24 with e | e <;> rw [e] <;> decide
                have c' : (tW T n p).toNat ∈ [43, 45, 42, 47, 24, 25, 60, 62, 61, 21, 20] := by rcases w24 with e | e <;> rw [e] <;> decide
                have key : ∀ p2, p2 ≤ n → tE T n (tE T n p) < p2 → qO n so p2 1 0 (1 + 3 * (6 - o)) (fun st => false :: ([] ++ st)) (fun st => false :: st) (pB (pG T n so f 3 (o + 1) p2) (fun p3 => pB (pA (aS T n p3 41)) (fun p4 => pT p4 [(3, (tW T n p).toNat)]))) := fun p2 h2 h3 => by
                  have j3 := qO_m (qO_i (IH 3 (o + 1) p2 (by omega) (by omega) h2 (by show 10 * (n - p2) + 3 + 1 ≤ f; omega)) [false]) (s' := 1) (z' := 0) (D' := 1 + 3 * (6 - o)) (by show 1 ≤ 1; omega) (by omega) (by show 3 + 3 * (6 - (o + 1)) + 1 ≤ 1 + 3 * (6 - o); omega)
                  have := qO_B (k := fun p3 => pB (pA (aS T n p3 41)) (fun p4 => pT p4 [(3, (tW T n p).toNat)])) (s2 := fun st => false :: st) (s' := 1) (z' := 0) j3 (fun _ h _ => qO_E (qO_S (T := T) (c := 41) (s0 := fun st => false :: ([false] ++ st)) h) (sg_W c') (fun st hst => ⟨tD3 c, by show st.length + 1 ≤ 63; omega⟩))
                  exact this
                have := qO_B (k := fun p1 => pB (pA (aS T n p1 44)) (fun p2 => pB (pG T n so f 3 (o + 1) p2) (fun p3 => pB (pA (aS T n p3 41)) (fun p4 => pT p4 [(3, (tW T n p).toNat)])))) (s2 := fun st => false :: st) (s' := 1) (z' := 1) i3 (fun _ h h' => qO_B (s' := 1) (z' := 0) (qO_S (T := T) (c := 44) (s0 := fun st => false :: ([] ++ st)) h) (fun _ h2 h3 => key _ h2 (by omega)))
                exact qO_m (qO_w (p := p) (by omega) this) (by omega) (by omega) (Nat.le_refl _)
            · rw [if_neg s41]
              exact qO_e (by omega) (by omega) (by omega)
          · rw [if_neg w24]
            by_cases w9 : so = 3 ∧ (tW T n p = 9 ∨ tW T n p = 5)
            · rw [if_pos w9]
              have es := tE_s hp (tW_0 (T := T) (n := n) (p := p) (by omega))
              by_cases o6 : 6 ≤ o
              · rw [if_pos o6]
                exact qO_e (by omega) (by omega) (by omega)
              · rw [if_neg o6]
                have i3 := qO_m (qO_i (IH 0 (o + 1) (tE T n p) (by omega) (by omega) es.2 (by show 10 * (n - tE T n p) + 0 + 1 ≤ f; omega)) []) (s' := 1) (z' := 0) (D' := 1 + 3 * (6 - o)) (by show 1 ≤ 1; omega) (by omega) (by show 1 + 3 * (6 - (o + 1)) + 0 ≤ 1 + 3 * (6 - o); omega)
                refine qO_E (z := 0) (qO_w (p := p) (by omega) i3) ?_ (fun st hst => ⟨rfl, by show st.length + 1 ≤ 63; omega⟩)
                obtain ⟨e1, e2⟩ := w9
                subst e1
                refine ⟨rfl, ?_⟩
                rcases e2 with e | e
                · left; show (tW T n p).toNat = 9; rw [e]; rfl
                · right; show (tW T n p).toNat = 5; rw [e]; rfl
            · rw [if_neg w9]
              by_cases wv : vlB so (tW T n p) = true
              · rw [if_pos wv]
                unfold vlB at wv
                rw [decide_eq_true_eq] at wv
                have es := tE_s hp (tW_0 (T := T) (n := n) (p := p) (by omega))
                refine ⟨by show (0 : Nat) < 9; omega, fun _ => ⟨by show p + 1 ≤ tE T n p; omega, es.2, by show 1 + p + 0 ≤ tE T n p; omega, fun t ht => ?_, fun st hst => ?_⟩, fun e => absurd rfl e⟩
                · have e : t = (1, (tW T n p).toNat) := List.mem_singleton.mp ht
                  rw [e]
                  show (tW T n p).toNat = 14 ∨ (tW T n p).toNat = 3 ∨ (tW T n p).toNat = 4 ∨ (tW T n p).toNat = 15 ∨ (tW T n p).toNat = 12 ∨ ((so == 2) = true ∧ (tW T n p).toNat = 16) ∨ ((so == 3) = true ∧ ((tW T n p).toNat = 17 ∨ (tW T n p).toNat = 18 ∨ (tW T n p).toNat = 19))
                  rw [beq_iff_eq, beq_iff_eq]
                  omega
                · exact tokOK_1 rfl (by show st.length + 1 ≤ 63; omega)
              · rw [if_neg wv]
                exact qO_e (by omega) (by omega) (by omega)
    · -- product
      have hf0 : 10 * (n - p) + 1 + 1 ≤ f + 1 := hf
      show qO n so p 1 0 (2 + 3 * (6 - o)) (fun st => st) (fun st => false :: st) (pB (pG T n so f 0 o p) (fun p1 => pG T n so f 2 o p1))
      have i0 := qO_m (qO_i (IH 0 o p (by omega) ho hp (by show 10 * (n - p) + 0 + 1 ≤ f; omega)) []) (s' := 1) (z' := 0) (D' := 2 + 3 * (6 - o)) (by show 1 ≤ 1; omega) (by omega) (by show 1 + 3 * (6 - o) + 0 ≤ _; omega)
      exact qO_B (s' := 0) (z' := 0) i0 (fun _ h h' => qO_m (qO_i (IH 2 o _ (by omega) ho h (by show 10 * (n - _) + 0 + 1 ≤ f; omega)) []) (by omega) (by omega) (by show 2 + 3 * (6 - o) + 0 ≤ _; omega))
    · -- the rest of a product
      have hf0 : 10 * (n - p) + 0 + 1 ≤ f + 1 := hf
      show qO n so p 0 0 (2 + 3 * (6 - o)) (fun st => false :: st) (fun st => false :: st) (if tSg T n p = 42 ∨ tSg T n p = 47 then pB (pG T n so f 0 o (tE T n p)) (fun p1 => pB (pT p1 [(3, (tSg T n p).toNat)]) (fun p2 => pG T n so f 2 o p2)) else pT p [])
      by_cases q : tSg T n p = 42 ∨ tSg T n p = 47
      · rw [if_pos q]
        have es := tE_s hp (tSg_0 (T := T) (n := n) (p := p) (by omega))
        have c : (tSg T n p).toNat ∈ [43, 45, 42, 47, 24, 25] := by rcases q with e | e <;> rw [e] <;> decide
        have c' : (tSg T n p).toNat ∈ [43, 45, 42, 47, 24, 25, 60, 62, 61, 21, 20] := by rcases q with e | e <;> rw [e] <;> decide
        have i0 := qO_m (qO_i (IH 0 o (tE T n p) (by omega) ho es.2 (by show 10 * (n - tE T n p) + 0 + 1 ≤ f; omega)) [false]) (s' := 1) (z' := 0) (D' := 2 + 3 * (6 - o)) (by show 1 ≤ 1; omega) (by omega) (by show 1 + 3 * (6 - o) + 1 ≤ _; omega)
        have i1 := qO_E (z := 0) (s2 := fun st => false :: st) (qO_w (p := p) (by omega) i0) (sg_W (so := so) c') (fun st hst => ⟨tD3 c, by show st.length + 1 ≤ 63; omega⟩)
        have i2 := qO_B (k := fun p2 => pG T n so f 2 o p2) (s' := 0) (z' := 0) i1 (fun _ h h' => qO_m (qO_i (IH 2 o _ (by omega) ho h (by show 10 * (n - _) + 0 + 1 ≤ f; omega)) []) (by omega) (by omega) (by show 2 + 3 * (6 - o) + 0 ≤ _; omega))
        rw [pB_as] at i2
        exact qO_m i2 (by omega) (by omega) (Nat.le_refl _)
      · rw [if_neg q]
        exact ⟨by show (0 : Nat) < 9; omega, fun _ => ⟨Nat.le_refl _, hp, by show 0 + p + 0 ≤ p; omega, fun t ht => absurd ht List.not_mem_nil, fun st _ => rfl⟩, fun e => absurd rfl e⟩
    · -- sum
      have hf0 : 10 * (n - p) + 3 + 1 ≤ f + 1 := hf
      show qO n so p 1 0 (3 + 3 * (6 - o)) (fun st => st) (fun st => false :: st) (pB (pG T n so f 1 o p) (fun p1 => pG T n so f 4 o p1))
      have i0 := qO_m (qO_i (IH 1 o p (by omega) ho hp (by show 10 * (n - p) + 1 + 1 ≤ f; omega)) []) (s' := 1) (z' := 0) (D' := 3 + 3 * (6 - o)) (by show 1 ≤ 1; omega) (by omega) (by show 2 + 3 * (6 - o) + 0 ≤ _; omega)
      exact qO_B (s' := 0) (z' := 0) i0 (fun _ h h' => qO_m (qO_i (IH 4 o _ (by omega) ho h (by show 10 * (n - _) + 0 + 1 ≤ f; omega)) []) (by omega) (by omega) (by show 3 + 3 * (6 - o) + 0 ≤ _; omega))
    · -- the rest of a sum
      have hf0 : 10 * (n - p) + 0 + 1 ≤ f + 1 := hf
      show qO n so p 0 0 (3 + 3 * (6 - o)) (fun st => false :: st) (fun st => false :: st) (if tSg T n p = 43 ∨ tSg T n p = 45 then pB (pG T n so f 1 o (tE T n p)) (fun p1 => pB (pT p1 [(3, (tSg T n p).toNat)]) (fun p2 => pG T n so f 4 o p2)) else pT p [])
      by_cases q : tSg T n p = 43 ∨ tSg T n p = 45
      · rw [if_pos q]
        have es := tE_s hp (tSg_0 (T := T) (n := n) (p := p) (by omega))
        have c : (tSg T n p).toNat ∈ [43, 45, 42, 47, 24, 25] := by rcases q with e | e <;> rw [e] <;> decide
        have c' : (tSg T n p).toNat ∈ [43, 45, 42, 47, 24, 25, 60, 62, 61, 21, 20] := by rcases q with e | e <;> rw [e] <;> decide
        have i0 := qO_m (qO_i (IH 1 o (tE T n p) (by omega) ho es.2 (by show 10 * (n - tE T n p) + 1 + 1 ≤ f; omega)) [false]) (s' := 1) (z' := 0) (D' := 3 + 3 * (6 - o)) (by show 1 ≤ 1; omega) (by omega) (by show 2 + 3 * (6 - o) + 1 ≤ _; omega)
        have i1 := qO_E (z := 0) (s2 := fun st => false :: st) (qO_w (p := p) (by omega) i0) (sg_W (so := so) c') (fun st hst => ⟨tD3 c, by show st.length + 1 ≤ 63; omega⟩)
        have i2 := qO_B (k := fun p2 => pG T n so f 4 o p2) (s' := 0) (z' := 0) i1 (fun _ h h' => qO_m (qO_i (IH 4 o _ (by omega) ho h (by show 10 * (n - _) + 0 + 1 ≤ f; omega)) []) (by omega) (by omega) (by show 3 + 3 * (6 - o) + 0 ≤ _; omega))
        rw [pB_as] at i2
        exact qO_m i2 (by omega) (by omega) (Nat.le_refl _)
      · rw [if_neg q]
        exact ⟨by show (0 : Nat) < 9; omega, fun _ => ⟨Nat.le_refl _, hp, by show 0 + p + 0 ≤ p; omega, fun t ht => absurd ht List.not_mem_nil, fun st _ => rfl⟩, fun e => absurd rfl e⟩
    · -- fact
      have hf0 : 10 * (n - p) + 5 + 1 ≤ f + 1 := hf
      show qO n so p 1 0 (4 + 3 * (6 - o)) (fun st => st) (fun st => true :: st) (if tW T n p = 22 then _ else _)
      by_cases w22 : tW T n p = 22
      · rw [if_pos w22]
        have es := tE_s hp (tW_0 (T := T) (n := n) (p := p) (by omega))
        by_cases o6 : 6 ≤ o
        · rw [if_pos o6]
          exact qO_e (by omega) (by omega) (by omega)
        · rw [if_neg o6]
          have i0 := qO_m (qO_i (IH 5 (o + 1) (tE T n p) (by omega) (by omega) es.2 (by show 10 * (n - tE T n p) + 5 + 1 ≤ f; omega)) []) (s' := 1) (z' := 0) (D' := 4 + 3 * (6 - o)) (by show 1 ≤ 1; omega) (by omega) (by show 4 + 3 * (6 - (o + 1)) + 0 ≤ _; omega)
          exact qO_E (z := 0) (qO_w (p := p) (by omega) i0) rfl (fun st hst => ⟨rfl, by show st.length + 1 ≤ 63; omega⟩)
      · rw [if_neg w22]
        by_cases s91 : tSg T n p = 91
        · rw [if_pos s91]
          have es := tE_s hp (tSg_0 (T := T) (n := n) (p := p) (by omega))
          by_cases o6 : 6 ≤ o
          · rw [if_pos o6]
            exact qO_e (by omega) (by omega) (by omega)
          · rw [if_neg o6]
            have i3 := qO_i (IH 8 (o + 1) (tE T n p) (by omega) (by omega) es.2 (by show 10 * (n - tE T n p) + 8 + 1 ≤ f; omega)) []
            have := qO_B (k := fun p1 => pA (aS T n p1 93)) i3 (fun _ h _ => qO_S (T := T) (c := 93) (s0 := fun st => true :: ([] ++ st)) h)
            exact qO_m (qO_w (p := p) (by omega) this) (by omega) (by omega) (by show 6 + 3 * (6 - (o + 1)) + 0 ≤ 4 + 3 * (6 - o); omega)
        · rw [if_neg s91]
          by_cases w23 : tW T n p = 23
          · rw [if_pos w23]
            have es := tE_s hp (tW_0 (T := T) (n := n) (p := p) (by omega))
            refine ⟨by show (0 : Nat) < 9; omega, fun _ => ⟨by show p + 1 ≤ tE T n p; omega, es.2, by show 1 + p + 0 ≤ tE T n p; omega, fun t ht => ?_, fun st hst => tokOK_1 rfl (by show st.length + 1 ≤ 63; omega)⟩, fun e => absurd rfl e⟩
            have e : t = (4, 0) := List.mem_singleton.mp ht
            rw [e]
            rfl
          · rw [if_neg w23]
            have i3 := qO_m (qO_i (IH 3 o p (by omega) ho hp (by show 10 * (n - p) + 3 + 1 ≤ f; omega)) []) (s' := 1) (z' := 0) (D' := 4 + 3 * (6 - o)) (by show 1 ≤ 1; omega) (by omega) (by show 3 + 3 * (6 - o) + 0 ≤ _; omega)
            refine qO_B (s' := 0) (z' := 0) i3 (fun _ h h' => ?_)
            generalize (pG T n so f 3 o p).2.1 = p1 at h h' ⊢
            have ab1 := tAt_b (T := T) h
            by_cases q : tSg T n p1 = 60 ∨ tSg T n p1 = 62 ∨ tSg T n p1 = 61
            · rw [if_pos q]
              have es := tE_s h (tSg_0 (T := T) (n := n) (p := p1) (by omega))
              have c : (tSg T n p1).toNat ∈ [60, 62, 61] := by rcases q with e | e | e <;> rw [e] <;> decide
              have c' : (tSg T n p1).toNat ∈ [43, 45, 42, 47, 24, 25, 60, 62, 61, 21, 20] := by rcases q with e | e | e <;> rw [e] <;> decide
              have i0 := qO_m (qO_i (IH 3 o (tE T n p1) (by omega) ho es.2 (by show 10 * (n - tE T n p1) + 3 + 1 ≤ f; omega)) [false]) (s' := 1) (z' := 0) (D' := 4 + 3 * (6 - o)) (by show 1 ≤ 1; omega) (by omega) (by show 3 + 3 * (6 - o) + 1 ≤ _; omega)
              have i1 := qO_E (z := 0) (s2 := fun st => true :: st) (qO_w (p := p1) (by omega) i0) (sg_W (so := so) c') (fun st hst => ⟨tD3c c, by show st.length + 1 ≤ 63; omega⟩)
              exact qO_m i1 (by omega) (by omega) (Nat.le_refl _)
            · rw [if_neg q]
              exact qO_e (by omega) (by omega) (by omega)
    · -- both
      have hf0 : 10 * (n - p) + 6 + 1 ≤ f + 1 := hf
      show qO n so p 1 0 (5 + 3 * (6 - o)) (fun st => st) (fun st => true :: st) (pB (pG T n so f 5 o p) (fun p1 => pG T n so f 7 o p1))
      have i0 := qO_m (qO_i (IH 5 o p (by omega) ho hp (by show 10 * (n - p) + 5 + 1 ≤ f; omega)) []) (s' := 1) (z' := 0) (D' := 5 + 3 * (6 - o)) (by show 1 ≤ 1; omega) (by omega) (by show 4 + 3 * (6 - o) + 0 ≤ _; omega)
      exact qO_B (s' := 0) (z' := 0) i0 (fun _ h h' => qO_m (qO_i (IH 7 o _ (by omega) ho h (by show 10 * (n - _) + 0 + 1 ≤ f; omega)) []) (by omega) (by omega) (by show 5 + 3 * (6 - o) + 0 ≤ _; omega))
    · -- the rest of both
      have hf0 : 10 * (n - p) + 0 + 1 ≤ f + 1 := hf
      show qO n so p 0 0 (5 + 3 * (6 - o)) (fun st => true :: st) (fun st => true :: st) (if tW T n p = 21 then pB (pG T n so f 5 o (tE T n p)) (fun p1 => pB (pT p1 [(3, 21)]) (fun p2 => pG T n so f 7 o p2)) else pT p [])
      by_cases q : tW T n p = 21
      · rw [if_pos q]
        have es := tE_s hp (tW_0 (T := T) (n := n) (p := p) (by omega))
        have i0 := qO_m (qO_i (IH 5 o (tE T n p) (by omega) ho es.2 (by show 10 * (n - tE T n p) + 5 + 1 ≤ f; omega)) [true]) (s' := 1) (z' := 0) (D' := 5 + 3 * (6 - o)) (by show 1 ≤ 1; omega) (by omega) (by show 4 + 3 * (6 - o) + 1 ≤ _; omega)
        have i1 := qO_E (z := 0) (s2 := fun st => true :: st) (qO_w (p := p) (by omega) i0) (sg_W (so := so) (c := 21) (by decide)) (fun st hst => ⟨tD3t (by decide), by show st.length + 1 ≤ 63; omega⟩)
        have i2 := qO_B (k := fun p2 => pG T n so f 7 o p2) (s' := 0) (z' := 0) i1 (fun _ h h' => qO_m (qO_i (IH 7 o _ (by omega) ho h (by show 10 * (n - _) + 0 + 1 ≤ f; omega)) []) (by omega) (by omega) (by show 5 + 3 * (6 - o) + 0 ≤ _; omega))
        rw [pB_as] at i2
        exact qO_m i2 (by omega) (by omega) (Nat.le_refl _)
      · rw [if_neg q]
        exact ⟨by show (0 : Nat) < 9; omega, fun _ => ⟨Nat.le_refl _, hp, by show 0 + p + 0 ≤ p; omega, fun t ht => absurd ht List.not_mem_nil, fun st _ => rfl⟩, fun e => absurd rfl e⟩
    · -- test
      have hf0 : 10 * (n - p) + 8 + 1 ≤ f + 1 := hf
      show qO n so p 1 0 (6 + 3 * (6 - o)) (fun st => st) (fun st => true :: st) (pB (pG T n so f 6 o p) (fun p1 => pG T n so f 9 o p1))
      have i0 := qO_m (qO_i (IH 6 o p (by omega) ho hp (by show 10 * (n - p) + 6 + 1 ≤ f; omega)) []) (s' := 1) (z' := 0) (D' := 6 + 3 * (6 - o)) (by show 1 ≤ 1; omega) (by omega) (by show 5 + 3 * (6 - o) + 0 ≤ _; omega)
      exact qO_B (s' := 0) (z' := 0) i0 (fun _ h h' => qO_m (qO_i (IH 9 o _ (by omega) ho h (by show 10 * (n - _) + 0 + 1 ≤ f; omega)) []) (by omega) (by omega) (by show 6 + 3 * (6 - o) + 0 ≤ _; omega))
    · -- the rest of a test
      have hf0 : 10 * (n - p) + 0 + 1 ≤ f + 1 := hf
      show qO n so p 0 0 (6 + 3 * (6 - o)) (fun st => true :: st) (fun st => true :: st) (if tW T n p = 20 then pB (pG T n so f 6 o (tE T n p)) (fun p1 => pB (pT p1 [(3, 20)]) (fun p2 => pG T n so f 9 o p2)) else pT p [])
      by_cases q : tW T n p = 20
      · rw [if_pos q]
        have es := tE_s hp (tW_0 (T := T) (n := n) (p := p) (by omega))
        have i0 := qO_m (qO_i (IH 6 o (tE T n p) (by omega) ho es.2 (by show 10 * (n - tE T n p) + 6 + 1 ≤ f; omega)) [true]) (s' := 1) (z' := 0) (D' := 6 + 3 * (6 - o)) (by show 1 ≤ 1; omega) (by omega) (by show 5 + 3 * (6 - o) + 1 ≤ _; omega)
        have i1 := qO_E (z := 0) (s2 := fun st => true :: st) (qO_w (p := p) (by omega) i0) (sg_W (so := so) (c := 20) (by decide)) (fun st hst => ⟨tD3t (by decide), by show st.length + 1 ≤ 63; omega⟩)
        have i2 := qO_B (k := fun p2 => pG T n so f 9 o p2) (s' := 0) (z' := 0) i1 (fun _ h h' => qO_m (qO_i (IH 9 o _ (by omega) ho h (by show 10 * (n - _) + 0 + 1 ≤ f; omega)) []) (by omega) (by omega) (by show 6 + 3 * (6 - o) + 0 ≤ _; omega))
        rw [pB_as] at i2
        exact qO_m i2 (by omega) (by omega) (Nat.le_refl _)
      · rw [if_neg q]
        exact ⟨by show (0 : Nat) < 9; omega, fun _ => ⟨Nat.le_refl _, hp, by show 0 + p + 0 ≤ p; omega, fun t ht => absurd ht List.not_mem_nil, fun st _ => rfl⟩, fun e => absurd rfl e⟩
end GRAM
