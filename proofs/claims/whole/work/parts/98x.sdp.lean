/-! ===== a sound told as a text, purely ===== -/
/-- a boat: its name's letters, mile, how tight, rosin, its score -/
abbrev sBo : Type := List Nat × Nat × Nat × Nat × List Nat
def sBo.nm (x : sBo) : List Nat := x.1
def sBo.mi (x : sBo) : Nat := x.2.1
def sBo.ti (x : sBo) : Nat := x.2.2.1
def sBo.ro (x : sBo) : Nat := x.2.2.2.1
def sBo.sc (x : sBo) : List Nat := x.2.2.2.2
/-- last mile, wind, squall, wolves, size of the code, boats, riders, wolves by mile, formulas -/
abbrev sSt : Type := Nat × Nat × Nat × Nat × Nat × List sBo × List (List Nat × Nat) × (Nat → Nat) × (Nat → Option (Nat × List tok))
def sSt.la (X : sSt) : Nat := X.1
def sSt.wd (X : sSt) : Nat := X.2.1
def sSt.sq (X : sSt) : Nat := X.2.2.1
def sSt.nw (X : sSt) : Nat := X.2.2.2.1
def sSt.sz (X : sSt) : Nat := X.2.2.2.2.1
def sSt.bn (X : sSt) : List sBo := X.2.2.2.2.2.1
def sSt.rd (X : sSt) : List (List Nat × Nat) := X.2.2.2.2.2.2.1
def sSt.wf (X : sSt) : Nat → Nat := X.2.2.2.2.2.2.2.1
def sSt.fo (X : sSt) : Nat → Option (Nat × List tok) := X.2.2.2.2.2.2.2.2
abbrev sRs : Type := Nat × Nat × sSt
def sX0 : sSt := (0, 0, 0, 0, 0, [], [], fun _ => 0, fun _ => none)
/-- behind a reader: goes on, or what failed -/
def rS (r : Nat × Nat) (k : Nat → Nat × Nat) : Nat × Nat := if r.1 = 0 then k r.2 else r
def sI (r : Nat × Nat) (X : sSt) (k : Nat → sRs) : sRs := if r.1 = 0 then k r.2 else (r.1, r.2, X)
def sNm (X : sSt) : List (List Nat) := X.bn.map sBo.nm ++ X.rd.map Prod.fst
/-- a name that is new: behind it -/
def aK (T : Nat → Nat) (n p : Nat) (X : sSt) : Nat × Nat := rS (aM T n p) (fun q => if tL T n p ∈ sNm X then (3, tAt T n p) else (0, q))
def sdBoat (T : Nat → Nat) (n : Nat) (X : sSt) (p : Nat) : sRs := if X.bn.length = 6 then (5, tAt T n p, X) else
  sI (aK T n (tE T n p) X) X (fun p2 => sI (aW T n p2 2) X (fun p3 => sI (aN T n p3 0 X.la) X (fun p4 => sI (aW T n p4 3) X (fun p5 => sI (aN T n p5 0 99) X (fun p6 => sI (aW T n p6 4) X (fun p7 => sI (aN T n p7 0 99) X (fun p8 => (0, p8, (X.la, X.wd, X.sq, X.nw, X.sz, X.bn ++ [(tL T n (tE T n p), tV T n p3, tV T n p5, tV T n p7, [])], X.rd, X.wf, X.fo)))))))))
/-- which boat has this name: its number, or how many there are -/
def sWh (l : List Nat) : List sBo → Nat
  | [] => 0
  | x :: r => if x.nm = l then 0 else sWh l r + 1
def sSc (v : Nat) (l : List sBo) (b : Nat) : List sBo := l.modify b (fun x => (x.nm, x.mi, x.ti, x.ro, x.sc ++ [v]))
def sLn (l : List sBo) (b : Nat) : Nat := ((l[b]?).map (fun x => x.sc.length)).getD 0
def sdScore (T : Nat → Nat) (n : Nat) (X : sSt) (p : Nat) : sRs := sI (aM T n (tE T n p)) X (fun p2 =>
  if sWh (tL T n (tE T n p)) X.bn = X.bn.length then (3, tAt T n (tE T n p), X) else sI (aN T n p2 0 7) X (fun p3 =>
  if sLn X.bn (sWh (tL T n (tE T n p)) X.bn) = 6 then (5, tAt T n p2, X) else (0, p3, (X.la, X.wd, X.sq, X.nw, X.sz, sSc (tV T n p2) X.bn (sWh (tL T n (tE T n p)) X.bn), X.rd, X.wf, X.fo))))
def sdWolf (T : Nat → Nat) (n : Nat) (X : sSt) (p : Nat) : sRs := sI (aN T n (tE T n p) 0 X.la) X (fun p2 => sI (aN T n p2 0 7) X (fun p3 =>
  if X.wf (tV T n (tE T n p)) / 2 ^ tV T n p2 % 2 = 1 then (2, tAt T n p2, X) else (0, p3, (X.la, X.wd, X.sq, X.nw + 1, X.sz, X.bn, X.rd, (fun m => if m = tV T n (tE T n p) then X.wf m + 2 ^ tV T n p2 else X.wf m), X.fo))))
def sdRider (T : Nat → Nat) (n : Nat) (X : sSt) (p : Nat) : sRs := if X.rd.length = 6 then (5, tAt T n p, X) else
  sI (aK T n (tE T n p) X) X (fun p2 => sI (aW T n p2 8) X (fun p3 => sI (aN T n p3 0 7) X (fun p4 => (0, p4, (X.la, X.wd, X.sq, X.nw, X.sz, X.bn, X.rd ++ [(tL T n (tE T n p), tV T n p3)], X.wf, X.fo)))))
/-- how much fuel a formula gets -/
def sdF (n : Nat) : Nat := 10 * n + 20
def sdForm (T : Nat → Nat) (n f : Nat) (X : sSt) (p : Nat) : sRs := if (X.fo f).isSome = true then (5, tAt T n p, X) else
  if (pG T n f (sdF n) (if f = 2 then 8 else 3) 0 (tE T n p)).1 = 0 then (0, (pG T n f (sdF n) (if f = 2 then 8 else 3) 0 (tE T n p)).2.1, (X.la, X.wd, X.sq, X.nw, X.sz + (pG T n f (sdF n) (if f = 2 then 8 else 3) 0 (tE T n p)).2.2.length, X.bn, X.rd, X.wf, fun g => if g = f then some (X.sz, (pG T n f (sdF n) (if f = 2 then 8 else 3) 0 (tE T n p)).2.2) else X.fo g))
  else ((pG T n f (sdF n) (if f = 2 then 8 else 3) 0 (tE T n p)).1, (pG T n f (sdF n) (if f = 2 then 8 else 3) 0 (tE T n p)).2.1, X)
def sdWind (T : Nat → Nat) (n : Nat) (X : sSt) (p : Nat) : sRs := sI (aN T n (tE T n p) 0 9) X (fun p2 => (0, p2, (X.la, tV T n (tE T n p), X.sq, X.nw, X.sz, X.bn, X.rd, X.wf, X.fo)))
def sdSqu (T : Nat → Nat) (n : Nat) (X : sSt) (p : Nat) : sRs := sI (aN T n (tE T n p) 0 100) X (fun p2 => (0, p2, (X.la, X.wd, tV T n (tE T n p), X.nw, X.sz, X.bn, X.rd, X.wf, X.fo)))
/-- a statement but the first, without its sign -/
def sdSt (T : Nat → Nat) (n : Nat) (X : sSt) (p : Nat) : sRs :=
  if tW T n p = 1 then sdBoat T n X p else if tW T n p = 5 then sdScore T n X p else if tW T n p = 6 then sdWolf T n X p else if tW T n p = 7 then sdRider T n X p else if tW T n p = 9 then sdForm T n 0 X p else if tW T n p = 10 then sdForm T n 1 X p else if tW T n p = 11 then sdForm T n 2 X p else if tW T n p = 12 then sdWind T n X p else if tW T n p = 13 then sdSqu T n X p else (1, tAt T n p, X)
/-- the first statement -/
def sdFi (T : Nat → Nat) (n : Nat) : sRs := sI (aW T n 0 0) sX0 (fun p2 => sI (aN T n p2 5 60) sX0 (fun p3 => sI (aS T n p3 59) sX0 (fun p4 => (0, p4, (tV T n p2, 0, 0, 0, 0, [], [], fun _ => 0, fun _ => none)))))
/-- the others: error, place or how many statements, the sound -/
def sdLo (T : Nat → Nat) (n : Nat) : Nat → Nat → Nat → sSt → sRs
  | 0, _, _, X => (9, 0, X)
  | f + 1, i, p, X => if tK T n p = 0 then (0, i, X) else if i = 80 then (5, tAt T n p, X) else
    if (sdSt T n X p).1 = 0 then sI (aS T n (sdSt T n X p).2.1 59) X (fun p2 => sdLo T n f (i + 1) p2 (sdSt T n X p).2.2) else ((sdSt T n X p).1, (sdSt T n X p).2.1, X)
def sdAll (T : Nat → Nat) (n : Nat) : sRs := if (sdFi T n).1 = 0 then sdLo T n 81 1 (sdFi T n).2.1 (sdFi T n).2.2 else sdFi T n
/-- names told by numbers -/
theorem pk27_s {l : List Nat} {x : Nat} : pk27 (l ++ [x]) = 27 * pk27 l + x := by
  unfold pk27
  rw [List.foldl_append]
  rfl
theorem pk27_i : ∀ (n : Nat) (l k : List Nat), l.length ≤ n → (∀ x ∈ l, 1 ≤ x ∧ x ≤ 26) → (∀ x ∈ k, 1 ≤ x ∧ x ≤ 26) → pk27 l = pk27 k → l = k
  | 0, l, k, hn, hl, hk, h => by
    have : l = [] := List.length_eq_zero_iff.mp (by omega)
    subst this
    rcases List.eq_nil_or_concat k with c | ⟨k', y, c⟩
    · exact c.symm
    · have c' : k = k' ++ [y] := by rw [c]; simp
      subst c'
      rw [pk27_s] at h
      have := hk y (by simp)
      have h0 : pk27 [] = 0 := rfl
      omega
  | n + 1, l, k, hn, hl, hk, h => by
    rcases List.eq_nil_or_concat l with c | ⟨l', x, c⟩
    · subst c
      rcases List.eq_nil_or_concat k with c | ⟨k', y, c⟩
      · exact c.symm
      · have c' : k = k' ++ [y] := by rw [c]; simp
        subst c'
        rw [pk27_s] at h
        have := hk y (by simp)
        have h0 : pk27 [] = 0 := rfl
        omega
    · have c' : l = l' ++ [x] := by rw [c]; simp
      subst c'
      have hx := hl x (by simp)
      rcases List.eq_nil_or_concat k with c | ⟨k', y, c⟩
      · subst c
        rw [pk27_s] at h
        have h0 : pk27 [] = 0 := rfl
        omega
      · have c'' : k = k' ++ [y] := by rw [c]; simp
        subst c''
        have hy := hk y (by simp)
        rw [pk27_s, pk27_s] at h
        have e1 : x = y := by omega
        have e2 : pk27 l' = pk27 k' := by omega
        have hn' : l'.length ≤ n := by
          have : (l' ++ [x]).length = l'.length + 1 := by simp
          omega
        rw [e1, pk27_i n l' k' hn' (fun z hz => hl z (by simp [hz])) (fun z hz => hk z (by simp [hz])) e2]
theorem pk27_b {l : List Nat} (h1 : l.length ≤ 6) (hl : ∀ x ∈ l, x ≤ 26) : pk27 l < 27 ^ 6 := by
  have key : ∀ (l : List Nat) (a : Nat), (∀ x ∈ l, x ≤ 26) → l.foldl (fun a x => 27 * a + x) a < (a + 1) * 27 ^ l.length := by
    intro l
    induction l with
    | nil => intro a _; show a < (a + 1) * 1; omega
    | cons x l ih =>
      intro a h
      have hx := h x List.mem_cons_self
      have := ih (27 * a + x) (fun y hy => h y (List.mem_cons_of_mem _ hy))
      show l.foldl (fun a x => 27 * a + x) (27 * a + x) < (a + 1) * 27 ^ (l.length + 1)
      refine Nat.lt_of_lt_of_le this ?_
      rw [Nat.pow_succ, ← Nat.mul_assoc, Nat.mul_right_comm]
      exact Nat.mul_le_mul_right _ (by omega)
  have := key l 0 hl
  unfold pk27
  refine Nat.lt_of_lt_of_le this ?_
  rw [Nat.zero_add, Nat.one_mul]
  exact Nat.pow_le_pow_right (by decide) h1
/-- the letters of a name -/
theorem tL_b {T : Nat → Nat} {n p : Nat} (h : (aM T n p).1 = 0) : tK T n p = 1 ∧ tN T n p ≤ 6 ∧ ¬ (0 ≤ tW T n p ∧ tW T n p < 26) ∧ (aM T n p).2 = tE T n p := by
  unfold aM at h ⊢
  by_cases k1 : tK T n p = 1
  · rw [if_pos k1] at h ⊢
    by_cases q : 6 < tN T n p
    · rw [if_pos q] at h; cases h
    · rw [if_neg q] at h ⊢
      by_cases w : 0 ≤ tW T n p ∧ tW T n p < 26
      · rw [if_pos w] at h; cases h
      · rw [if_neg w]
        exact ⟨k1, by omega, w, rfl⟩
  · rw [if_neg k1] at h; cases h
theorem tL_x {T : Nat → Nat} {n p : Nat} (hp : p ≤ n) (k1 : tK T n p = 1) : (tL T n p).length = tN T n p ∧ 1 ≤ tN T n p ∧ ∀ x ∈ tL T n p, 1 ≤ x ∧ x ≤ 26 := by
  have eb := tE_b (T := T) hp
  have lt : tAt T n p < n := (tK_1.mp k1).1
  have e1 := tE_1 k1
  refine ⟨rlS_l _ _, by unfold tN; have := eb.2.2 lt; omega, fun x hx => ?_⟩
  obtain ⟨k, hk, rfl⟩ := rlS_m _ _ _ hx
  unfold tN at hk
  obtain ⟨-, c⟩ := sp_in (c := lB) (T := T) (n := n) (p := tAt T n p) (q := tAt T n p + k) (by omega) (by omega)
  have := lB_t.mp c
  omega
