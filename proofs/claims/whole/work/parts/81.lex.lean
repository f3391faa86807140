/-! ===== a text and its tokens ===== -/
def lB (c : Nat) : Bool := decide (97 ≤ c ∧ c ≤ 122)
def dB (c : Nat) : Bool := decide (48 ≤ c ∧ c ≤ 57)
def sB (c : Nat) : Bool := decide (c = 10 ∨ c = 32)
def spF (c : Nat → Bool) (T : Nat → Nat) (n : Nat) : Nat → Nat → Nat
  | 0, p => p
  | m + 1, p => if p < n ∧ c (T p) = true then spF c T n m (p + 1) else p
/-- the first place from p on that isn't such a byte -/
def spn (c : Nat → Bool) (T : Nat → Nat) (n p : Nat) : Nat := spF c T n (n - p) p
section SPN
variable {c : Nat → Bool} {T : Nat → Nat} {n : Nat}
theorem sp_1 {p : Nat} (h : p < n) (hc : c (T p) = true) : spn c T n p = spn c T n (p + 1) := by
  unfold spn
  rw [show n - p = n - (p + 1) + 1 by omega]
  exact if_pos ⟨h, hc⟩
theorem sp_0 {p : Nat} (h : ¬ (p < n ∧ c (T p) = true)) : spn c T n p = p := by
  unfold spn
  cases e : n - p with
  | zero => rfl
  | succ m => exact if_neg h
theorem sp_all : ∀ (m p : Nat), n - p = m → p ≤ spn c T n p ∧ (p ≤ n → spn c T n p ≤ n) ∧ (∀ q, p ≤ q → q < spn c T n p → q < n ∧ c (T q) = true) ∧ ¬ (spn c T n p < n ∧ c (T (spn c T n p)) = true)
  | 0, p, h => by
    rw [sp_0 (by omega)]
    exact ⟨Nat.le_refl _, id, fun q h1 h2 => by omega, by omega⟩
  | m + 1, p, h => by
    by_cases q : p < n ∧ c (T p) = true
    · rw [sp_1 q.1 q.2]
      obtain ⟨h1, h2, h3, h4⟩ := sp_all m (p + 1) (by omega)
      refine ⟨by omega, fun _ => h2 (by omega), fun r r1 r2 => ?_, h4⟩
      by_cases e : r = p
      · subst e; exact q
      · exact h3 r (by omega) r2
    · rw [sp_0 q]
      exact ⟨Nat.le_refl _, id, fun r h1 h2 => by omega, q⟩
theorem sp_ge (p : Nat) : p ≤ spn c T n p := (sp_all (n - p) p rfl).1
theorem sp_le {p : Nat} (h : p ≤ n) : spn c T n p ≤ n := (sp_all (n - p) p rfl).2.1 h
theorem sp_in {p q : Nat} (h1 : p ≤ q) (h2 : q < spn c T n p) : q < n ∧ c (T q) = true := (sp_all (n - p) p rfl).2.2.1 q h1 h2
theorem sp_nd (p : Nat) : ¬ (spn c T n p < n ∧ c (T (spn c T n p)) = true) := (sp_all (n - p) p rfl).2.2.2
theorem sp_mid {p : Nat} : ∀ (m q : Nat), q = p + m → q ≤ spn c T n p → spn c T n q = spn c T n p
  | 0, q, h, _ => by rw [h]; rfl
  | m + 1, q, h, h2 => by
    have ih := sp_mid (p := p) m (p + m) rfl (by omega)
    obtain ⟨k1, k2⟩ := sp_in (c := c) (T := T) (n := n) (p := p) (q := p + m) (by omega) (by omega)
    rw [← ih, sp_1 k1 k2, h]
    rfl
end SPN
/-- the words, letters by numbers -/
def WLs : List (List Nat) := [[19, 15, 21, 14, 4], [2, 15, 1, 20], [1, 20], [20, 9, 7, 8, 20], [18, 15, 19, 9, 14], [19, 3, 15, 18, 5], [23, 15, 12, 6], [18, 9, 4, 5, 18], [11, 5, 25], [3, 1, 18, 18, 25], [19, 12, 9, 16, 19], [19, 23, 1, 13, 16], [23, 9, 14, 4], [19, 17, 21, 1, 12, 12], [14, 15, 20, 5], [13, 9, 12, 5], [23, 5, 14, 20], [14, 21, 13, 2, 5, 18], [19, 21, 14, 11], [8, 15, 21, 18], [15, 18], [1, 14, 4], [14, 15, 20], [1, 12, 12], [13, 9, 14], [13, 1, 24], [6, 9, 18, 19, 20], [12, 1, 19, 20], [15, 6, 20, 5, 14], [20, 15, 20, 1, 12], [13, 15, 19, 20], [12, 5, 1, 19, 20]]
def WL (i : Nat) : List Nat := WLs.getD i []
theorem WL_6 : ∀ i : Fin 32, am_K0 6 i.val = am_i (pk5 (WL i.val) : Nat) := by decide +kernel
/-- which word the reference's row of letters is -/
def wdQ (q : Nat) : Nat := if q < 100 then q - 67 else [26, 27, 28, 29, 30, 31, 22, 21, 20, 23, 24, 25, 14, 3, 4, 15, 12, 16, 17, 18, 19, 9, 5].getD (q - 111) 0
def isQ (q : Nat) : Bool := (Nat.ble 67 q && Nat.ble q 92) || (Nat.ble 111 q && Nat.ble q 133)
theorem WL_q : ∀ q : Fin 138, isQ q.val = true → am_kd q.val = (3, (WL (wdQ q.val)).length) ∧ wdQ q.val < 32 ∧ ∀ i : Fin 6, i.val < (WL (wdQ q.val)).length → am_K0 q.val i.val = am_i ((96 + (WL (wdQ q.val)).getD i.val 0 : Nat) : Int) := by decide +kernel
theorem WL_b : ∀ i : Fin 32, 1 ≤ (WL i.val).length ∧ (WL i.val).length ≤ 6 ∧ ∀ x ∈ WL i.val, 1 ≤ x ∧ x ≤ 26 := by decide +kernel
theorem WL_u : ∀ i j : Fin 32, WL i.val = WL j.val → i = j := by decide +kernel
/-- the letters of a run, its packed name -/
def rlS (T : Nat → Nat) : Nat → Nat → List Nat
  | 0, _ => []
  | m + 1, a => (T a - 96) :: rlS T m (a + 1)
theorem rlS_l {T : Nat → Nat} : ∀ m a, (rlS T m a).length = m
  | 0, _ => rfl
  | m + 1, a => by
    show (rlS T m (a + 1)).length + 1 = m + 1
    rw [rlS_l m]
theorem rlS_g {T : Nat → Nat} : ∀ m a k, k < m → (rlS T m a).getD k 0 = T (a + k) - 96
  | 0, a, k, h => by omega
  | m + 1, a, 0, h => rfl
  | m + 1, a, k + 1, h => by
    have := rlS_g (T := T) m (a + 1) k (by omega)
    show (rlS T m (a + 1)).getD k 0 = _
    rw [this, show a + 1 + k = a + (k + 1) by omega]
def ixL (l : List Nat) : Nat → Nat → Int
  | 0, _ => -1
  | m + 1, i => if l = WL i then (i : Int) else ixL l m (i + 1)
theorem ixL_b {l : List Nat} : ∀ m i, ixL l m i = -1 ∨ ((i : Int) ≤ ixL l m i ∧ ixL l m i < i + m)
  | 0, i => Or.inl rfl
  | m + 1, i => by
    by_cases q : l = WL i
    · right
      rw [show ixL l (m + 1) i = i from if_pos q]
      omega
    · rw [show ixL l (m + 1) i = ixL l m (i + 1) from if_neg q]
      rcases ixL_b (l := l) m (i + 1) with h | h
      · exact Or.inl h
      · right; omega
theorem ixL_n {l : List Nat} : ∀ m i, (∀ j, i ≤ j → j < i + m → l ≠ WL j) → ixL l m i = -1
  | 0, i, _ => rfl
  | m + 1, i, h => by
    rw [show ixL l (m + 1) i = ixL l m (i + 1) from if_neg (h i (by omega) (by omega))]
    exact ixL_n m (i + 1) (fun j h1 h2 => h j (by omega) (by omega))
theorem ixL_y {l : List Nat} {w : Nat} (hw : w < 32) (hl : l = WL w) : ∀ m i, i ≤ w → w < i + m → i + m ≤ 32 → ixL l m i = w
  | 0, i, h1, h2, _ => by omega
  | m + 1, i, h1, h2, h3 => by
    by_cases q : l = WL i
    · have := WL_u ⟨i, by omega⟩ ⟨w, hw⟩ (by show WL i = WL w; rw [← q, ← hl])
      rw [show ixL l (m + 1) i = i from if_pos q]
      have := congrArg Fin.val this
      have : i = w := this
      omega
    · have : i ≠ w := fun e => q (by rw [e]; exact hl)
      rw [show ixL l (m + 1) i = ixL l m (i + 1) from if_neg q]
      exact ixL_y hw hl m (i + 1) (by omega) (by omega) (by omega)
/-- the number of the word, -1 none -/
def wix (l : List Nat) : Int := ixL l 32 0
theorem wix_i {l : List Nat} {w : Nat} (hw : w < 32) : wix l = w ↔ l = WL w := by
  constructor
  · intro h
    by_cases q : l = WL w
    · exact q
    · -- another word, or none
      by_cases r : ∃ j, j < 32 ∧ l = WL j
      · obtain ⟨j, j1, j2⟩ := r
        have := ixL_y j1 j2 32 0 (by omega) (by omega) (by omega)
        have e : wix l = j := this
        have : j = w := by omega
        rw [j2, this]
      · have := ixL_n (l := l) 32 0 (fun j _ j2 e => r ⟨j, by omega, e⟩)
        have e : wix l = -1 := this
        omega
  · intro h
    exact ixL_y hw h 32 0 (by omega) (by omega) (by omega)
theorem wix_b (l : List Nat) : -1 ≤ wix l ∧ wix l < 32 := by
  have : wix l = ixL l 32 0 := rfl
  rcases ixL_b (l := l) 32 0 with h | h <;> omega
/-- packed by five bits: one name, one number -/
theorem fo_i : ∀ (l k : List Nat) (a b : Nat), l.length = k.length → (∀ x ∈ l, x < 32) → (∀ x ∈ k, x < 32) → l.foldl (fun a x => 32 * a + x) a = k.foldl (fun a x => 32 * a + x) b → a = b ∧ l = k
  | [], [], a, b, _, _, _, h => ⟨h, rfl⟩
  | [], _ :: _, _, _, h, _, _, _ => by simp at h
  | _ :: _, [], _, _, h, _, _, _ => by simp at h
  | x :: l, y :: k, a, b, hl, hx, hy, h => by
    obtain ⟨e1, e2⟩ := fo_i l k (32 * a + x) (32 * b + y) (by simpa using hl) (fun z hz => hx z (List.mem_cons_of_mem _ hz)) (fun z hz => hy z (List.mem_cons_of_mem _ hz)) h
    have x1 := hx x List.mem_cons_self
    have y1 := hy y List.mem_cons_self
    have : a = b ∧ x = y := by omega
    exact ⟨this.1, by rw [this.2, e2]⟩
theorem fo_p : ∀ (k : Nat) (l : List Nat) (a : Nat), (l ++ List.replicate k 0).foldl (fun a x => 32 * a + x) a = l.foldl (fun a x => 32 * a + x) a * 32 ^ k
  | 0, l, a => by simp
  | k + 1, l, a => by
    rw [List.replicate_succ', ← List.append_assoc, List.foldl_append, fo_p k l a, Nat.pow_succ, ← Nat.mul_assoc]
    simp only [List.foldl_cons, List.foldl_nil]
    rw [Nat.add_zero, Nat.mul_comm]
theorem pk5_i {l k : List Nat} (h1 : l.length ≤ 6) (h2 : k.length ≤ 6) (hl : ∀ x ∈ l, 1 ≤ x ∧ x ≤ 26) (hk : ∀ x ∈ k, 1 ≤ x ∧ x ≤ 26) (h : pk5 l = pk5 k) : l = k := by
  unfold pk5 at h
  rw [← fo_p, ← fo_p] at h
  obtain ⟨-, e⟩ := fo_i _ _ 0 0 (by simp; omega) (fun x hx => by
    rcases List.mem_append.mp hx with q | q
    · have := hl x q; omega
    · have := (List.mem_replicate.mp q).2; omega) (fun x hx => by
    rcases List.mem_append.mp hx with q | q
    · have := hk x q; omega
    · have := (List.mem_replicate.mp q).2; omega) h
  have f : ∀ (l : List Nat) (j : Nat), (∀ x ∈ l, 1 ≤ x ∧ x ≤ 26) → (l ++ List.replicate j 0).filter (fun x => x != 0) = l := fun l j hl => by
    rw [List.filter_append]
    have a1 : l.filter (fun x => x != 0) = l := List.filter_eq_self.mpr (fun x hx => by have := hl x hx; simp; omega)
    have a2 : (List.replicate j 0).filter (fun x => x != 0) = [] := by simp
    rw [a1, a2, List.append_nil]
  have := congrArg (List.filter (fun x => x != 0)) e
  rw [f l _ hl, f k _ hk] at this
  exact this
