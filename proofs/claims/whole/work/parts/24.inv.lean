/-! ===== what holds between two calls of the law: the simple part; W: the rest, which looks at the cells of dW alone ===== -/
abbrev tI : Type := Nat → Nat → Int32
abbrev tJ : Type := Nat → Nat → Int64
abbrev tR : Type := Nat → Nat → Nat
def cg (X : tI → Prop) (dX : Nat → Nat → Bool) : Prop := ∀ I I' : tI, (∀ c k, dX c k = true → I' c k = I c k) → X I → X I'
theorem cg_up {X : tI → Prop} {dX : Nat → Nat → Bool} (h : cg X dX) {a k : Nat} (v : Int32) (hd : dX a k = false) {I : tI} (hX : X I) : X (am_up I a k v) := by
  refine h I _ (fun c j hc => ?_) hX
  unfold am_up
  by_cases e : c = a
  · subst e
    by_cases e2 : j = k
    · subst e2; rw [hd] at hc; cases hc
    · rw [if_pos rfl, if_neg e2]
  · rw [if_neg e]
def vTape (I : tI) : Prop := ∃ n : Nat, n ≤ 1600 ∧ I 3 1 = am_i n ∧ I 64 1 = am_i n ∧ ∀ k, k < n → ∃ v : Nat, v < 256 ∧ I 4 k = am_i v ∧ I 65 k = am_i v
def dTape (c k : Nat) : Bool := (c == 3 && k == 1) || (c == 64 && k == 1) || c == 4 || c == 65
theorem vTape_cg : cg vTape dTape := by
  rintro I I' h ⟨n, h1, h2, h3, h4⟩
  refine ⟨n, h1, by rw [h 3 1 rfl]; exact h2, by rw [h 64 1 rfl]; exact h3, fun k hk => ?_⟩
  rw [h 4 k rfl, h 65 k rfl]
  exact h4 k hk
def vRefd (I : tI) : Prop := ∀ k, k < 6 → I 63 k = I 66 k
def dRefd (c _k : Nat) : Bool := c == 63 || c == 66
theorem vRefd_cg : cg vRefd dRefd := by
  intro I I' h hX k hk
  rw [h 63 k rfl, h 66 k rfl]
  exact hX k hk
def vFault (I : tI) : Prop := I 5 10 = I 64 7 ∧ I 5 11 = I 64 8
def dFault (c k : Nat) : Bool := (c == 5 && (k == 10 || k == 11)) || (c == 64 && (k == 7 || k == 8))
theorem vFault_cg : cg vFault dFault := by
  rintro I I' h ⟨h1, h2⟩
  exact ⟨by rw [h 5 10 rfl, h 64 7 rfl]; exact h1, by rw [h 5 11 rfl, h 64 8 rfl]; exact h2⟩
def vPic (I : tI) : Prop := ∃ n : Nat, n ≤ 69 ∧ I 61 1 = am_i n ∧ I 64 105 = am_i n ∧ ∀ k, k < n → I 62 k = I 137 k
def dPic (c k : Nat) : Bool := (c == 61 && k == 1) || (c == 64 && k == 105) || c == 62 || c == 137
theorem vPic_cg : cg vPic dPic := by
  rintro I I' h ⟨n, h1, h2, h3, h4⟩
  refine ⟨n, h1, by rw [h 61 1 rfl]; exact h2, by rw [h 64 105 rfl]; exact h3, fun k hk => ?_⟩
  rw [h 62 k rfl, h 137 k rfl]
  exact h4 k hk
def vSeen (I : tI) : Prop := ∃ n : Nat, n ≤ 16 ∧ I 57 1 = am_i n ∧ I 64 63 = am_i n ∧ ∀ k, k < n → ∃ u v : Nat, u ≤ 30 ∧ v ≤ 8 ∧ I 58 (2 * k) = am_i u ∧ I 58 (2 * k + 1) = am_i v ∧ I 108 (2 * k) = am_i u ∧ I 108 (2 * k + 1) = am_i v
def dSeen (c k : Nat) : Bool := (c == 57 && k == 1) || (c == 64 && k == 63) || c == 58 || c == 108
theorem vSeen_cg : cg vSeen dSeen := by
  rintro I I' h ⟨n, h1, h2, h3, h4⟩
  refine ⟨n, h1, by rw [h 57 1 rfl]; exact h2, by rw [h 64 63 rfl]; exact h3, fun k hk => ?_⟩
  rw [h 58 _ rfl, h 58 _ rfl, h 108 _ rfl, h 108 _ rfl]
  exact h4 k hk
def vSeed (I : tI) (J : tJ) : Prop := ∃ s : Nat, s < 2147483648 ∧ I 3 17 = am_i s ∧ J 64 70 = am_l s
def dSeed (c k : Nat) : Bool := c == 3 && k == 17
theorem vSeed_cg (J : tJ) : cg (fun I => vSeed I J) dSeed := by
  rintro I I' h ⟨s, h1, h2, h3⟩
  exact ⟨s, h1, by rw [h 3 17 rfl]; exact h2, h3⟩
/-- which cells and fields the rest looks at -/
def dW (c k : Nat) : Bool := c == 6 || (Nat.ble 10 c && Nat.ble c 29) || (Nat.ble 31 c && Nat.ble c 34) || (Nat.ble 67 c && Nat.ble c 103) || (Nat.ble 110 c && Nat.ble c 133) || (c == 64 && (k == 50 || k == 58 || k == 68 || k == 69))
def dWJ (c _k : Nat) : Bool := c == 95
def dWR (c k : Nat) : Bool := c == 3 && (k == 4 || k == 5)
def wC (W : tI → tJ → tR → Prop) : Prop := ∀ I J R I' J' R', (∀ c k, dW c k = true → I' c k = I c k) → (∀ c k, dWJ c k = true → J' c k = J c k) → (∀ c k, dWR c k = true → R' c k = R c k) → W I J R → W I' J' R'
theorem wC_I {W : tI → tJ → tR → Prop} (h : wC W) (J : tJ) (R : tR) : cg (fun I => W I J R) dW := fun I I' hI hX => h I J R I' J R hI (fun _ _ _ => rfl) (fun _ _ _ => rfl) hX
theorem wC_J {W : tI → tJ → tR → Prop} (h : wC W) {I : tI} {J : tJ} {R : tR} {a k : Nat} (v : Int64) (hd : dWJ a k = false) (hX : W I J R) : W I (am_up J a k v) R := by
  refine h I J R I _ R (fun _ _ _ => rfl) (fun c j hc => ?_) (fun _ _ _ => rfl) hX
  unfold am_up
  by_cases e : c = a
  · subst e
    rw [show dWJ c j = dWJ c k from rfl, hd] at hc; cases hc
  · rw [if_neg e]
def vMut (R : tR) : Prop := ((R 3 4 = 10 ∧ R 3 5 = 20) ∨ (R 3 4 = 20 ∧ R 3 5 = 10)) ∧ (R 30 2 = 10 ∨ R 30 2 = 20) ∧ (R 35 1 = 10 ∨ R 35 1 = 20) ∧ (R 42 1 = 10 ∨ R 42 1 = 20) ∧ (R 5 1 = 4 ∨ R 5 1 = 7)
def vV (W : tI → tJ → tR → Prop) (L : Nat) (xs : Nat → Int32) (I : tI) (J : tJ) (R : tR) : Prop :=
  (I 1 = xs ∧ R 0 0 = L ∧ st_Rx R ∧ st_Rm R ∧ vMut R) ∧ vTape I ∧ vRefd I ∧ vFault I ∧ vPic I ∧ vSeen I ∧ vSeed I J ∧ W I J R
