/-! ===== the law's loop, out of the 36 pairs of calls ===== -/
def lp_P (e : am_R) : Prop := ∃ M', e = some (some (.int 1), M') ∧ M'.2.2.2 ≤ 138
theorem lp_bif {b : Bool} {x y : am_R} (h1 : b = true → lp_P x) (h2 : b = false → lp_P y) : lp_P (bif b then x else y) := by
  cases b with
  | true => exact h1 rfl
  | false => exact h2 rfl
theorem lp_gd {b : Bool} {x y : am_R} (hb : b = true) (h : lp_P x) : lp_P (bif b then x else y) := by rw [hb]; exact h
/-- a pair of calls: the class's, then the reference's: one answer, and what holds between calls holds again -/
def pr_I (V : (Nat → Nat → Int32) → (Nat → Nat → Int64) → (Nat → Nat → Nat) → Prop) (d mx mm : Nat) (la : am_Ls) : Prop := ∀ I J R, V I J R → ∃ r I1 J1 R1 I2 J2 R2, am_E d mx 0 ((0, .ref 3) :: la) [] (I, J, R, 138) = some (some (.int r), (I1, J1, R1, 138)) ∧ I1 1 = I 1 ∧ R1 0 0 = R 0 0 ∧ am_E d mm 0 ((0, .ref 64) :: la) [] (I1, J1, R1, 138) = some (some (.int r), (I2, J2, R2, 138)) ∧ V I2 J2 R2
def pr_L (V : (Nat → Nat → Int32) → (Nat → Nat → Int64) → (Nat → Nat → Nat) → Prop) (d mx mm : Nat) (la : am_Ls) : Prop := ∀ I J R, V I J R → ∃ r I1 J1 R1 I2 J2 R2, am_E d mx 0 ((0, .ref 3) :: la) [] (I, J, R, 138) = some (some (.long r), (I1, J1, R1, 138)) ∧ I1 1 = I 1 ∧ R1 0 0 = R 0 0 ∧ am_E d mm 0 ((0, .ref 64) :: la) [] (I1, J1, R1, 138) = some (some (.long r), (I2, J2, R2, 138)) ∧ V I2 J2 R2
theorem lp_lg (r : Int64) : lg_cmp r r = 0 := by
  unfold lg_cmp
  rw [if_neg (Int64.lt_irrefl (a := r)), if_pos rfl]
section LPS
variable {V : (Nat → Nat → Int32) → (Nat → Nat → Int64) → (Nat → Nat → Nat) → Prop} {d : Nat} {a3 : Int32} {I : Nat → Nat → Int32} {J : Nat → Nat → Int64} {R : Nat → Nat → Nat}
noncomputable abbrev lp_E (d : Nat) (a3 : Int32) (M : am_Mem) : am_R := am_E (d + 1) 296 1192 [(0, .ref 1), (1, .ref 3), (2, .ref 64), (3, .int a3)] [] M
theorem lp_cs {i : Int32} (h : am_ok i (R 0 0) = true) : am_cs R 138 1 i = true := h

theorem lp_k0I {mx mm : Nat} (hV : V I J R) (hp : pr_I V d mx mm []) (hok : ∀ j : Int, j ∈ [0, 1, 2, 3, 4, 5] → am_ok (a3 + am_i j) (R 0 0) = true) (hk : ∀ I J R, V I J R → lp_P (lp_E d a3 (I, J, R, 138))) :
    lp_P (bif am_cf 138 3 11 then am_bI (am_E d mx 0 [(0, .ref 3)] [] (I, J, R, 138)) (fun v M1 => (bif am_cf M1.2.2.2 64 12 then am_bI (am_E d mm 0 [(0, .ref 64)] [] M1) (fun w M2 => (bif decide (v = w) then lp_E d a3 M2 else some (some (.int (am_i 0)), M2))) else none)) else none) := by
  obtain ⟨r, I1, J1, R1, I2, J2, R2, h1, q1, q2, h2, hV2⟩ := hp I J R hV
  refine lp_gd rfl ?_
  rw [h1]
  show lp_P ((bif am_cf 138 64 12 then am_bI (am_E d mm 0 [(0, .ref 64)] [] (I1, J1, R1, 138)) (fun w M2 => (bif decide (r = w) then lp_E d a3 M2 else some (some (.int (am_i 0)), M2))) else none))
  refine lp_gd rfl ?_
  rw [h2]
  show lp_P (bif decide (r = r) then lp_E d a3 (I2, J2, R2, 138) else _)
  exact lp_gd (by exact decide_eq_true rfl) (hk I2 J2 R2 hV2)

theorem lp_k1I {mx mm : Nat} (hV : V I J R) (hp : pr_I V d mx mm [(1, .int (I 1 (a3 + (am_i 1)).toNatClampNeg))]) (hok : ∀ j : Int, j ∈ [0, 1, 2, 3, 4, 5] → am_ok (a3 + am_i j) (R 0 0) = true) (hk : ∀ I J R, V I J R → lp_P (lp_E d a3 (I, J, R, 138))) :
    lp_P (bif am_cs R 138 1 (a3 + (am_i 1)) then (bif am_cf 138 3 11 then am_bI (am_E d mx 0 [(0, .ref 3), (1, .int (I 1 (a3 + (am_i 1)).toNatClampNeg))] [] (I, J, R, 138)) (fun v M1 => (bif am_cs M1.2.2.1 M1.2.2.2 1 (a3 + (am_i 1)) then (bif am_cf M1.2.2.2 64 12 then am_bI (am_E d mm 0 [(0, .ref 64), (1, .int (M1.1 1 (a3 + (am_i 1)).toNatClampNeg))] [] M1) (fun w M2 => (bif decide (v = w) then lp_E d a3 M2 else some (some (.int (am_i 0)), M2))) else none) else none)) else none) else none) := by
  obtain ⟨r, I1, J1, R1, I2, J2, R2, h1, q1, q2, h2, hV2⟩ := hp I J R hV
  refine lp_gd (lp_cs (hok 1 (by decide))) ?_
  refine lp_gd rfl ?_
  rw [h1]
  show lp_P ((bif am_cs R1 138 1 (a3 + (am_i 1)) then (bif am_cf 138 64 12 then am_bI (am_E d mm 0 [(0, .ref 64), (1, .int (I1 1 (a3 + (am_i 1)).toNatClampNeg))] [] (I1, J1, R1, 138)) (fun w M2 => (bif decide (r = w) then lp_E d a3 M2 else some (some (.int (am_i 0)), M2))) else none) else none))
  refine lp_gd (show am_cs R1 138 1 _ = true from lp_cs (by rw [q2]; exact hok 1 (by decide))) ?_
  refine lp_gd rfl ?_
  rw [q1, h2]
  show lp_P (bif decide (r = r) then lp_E d a3 (I2, J2, R2, 138) else _)
  exact lp_gd (by exact decide_eq_true rfl) (hk I2 J2 R2 hV2)

theorem lp_k2I {mx mm : Nat} (hV : V I J R) (hp : pr_I V d mx mm [(1, .int (I 1 (a3 + (am_i 1)).toNatClampNeg)), (2, .int (I 1 (a3 + (am_i 2)).toNatClampNeg))]) (hok : ∀ j : Int, j ∈ [0, 1, 2, 3, 4, 5] → am_ok (a3 + am_i j) (R 0 0) = true) (hk : ∀ I J R, V I J R → lp_P (lp_E d a3 (I, J, R, 138))) :
    lp_P (bif am_cs R 138 1 (a3 + (am_i 1)) then (bif am_cs R 138 1 (a3 + (am_i 2)) then (bif am_cf 138 3 11 then am_bI (am_E d mx 0 [(0, .ref 3), (1, .int (I 1 (a3 + (am_i 1)).toNatClampNeg)), (2, .int (I 1 (a3 + (am_i 2)).toNatClampNeg))] [] (I, J, R, 138)) (fun v M1 => (bif am_cs M1.2.2.1 M1.2.2.2 1 (a3 + (am_i 1)) then (bif am_cs M1.2.2.1 M1.2.2.2 1 (a3 + (am_i 2)) then (bif am_cf M1.2.2.2 64 12 then am_bI (am_E d mm 0 [(0, .ref 64), (1, .int (M1.1 1 (a3 + (am_i 1)).toNatClampNeg)), (2, .int (M1.1 1 (a3 + (am_i 2)).toNatClampNeg))] [] M1) (fun w M2 => (bif decide (v = w) then lp_E d a3 M2 else some (some (.int (am_i 0)), M2))) else none) else none) else none)) else none) else none) else none) := by
  obtain ⟨r, I1, J1, R1, I2, J2, R2, h1, q1, q2, h2, hV2⟩ := hp I J R hV
  refine lp_gd (lp_cs (hok 1 (by decide))) ?_
  refine lp_gd (lp_cs (hok 2 (by decide))) ?_
  refine lp_gd rfl ?_
  rw [h1]
  show lp_P ((bif am_cs R1 138 1 (a3 + (am_i 1)) then (bif am_cs R1 138 1 (a3 + (am_i 2)) then (bif am_cf 138 64 12 then am_bI (am_E d mm 0 [(0, .ref 64), (1, .int (I1 1 (a3 + (am_i 1)).toNatClampNeg)), (2, .int (I1 1 (a3 + (am_i 2)).toNatClampNeg))] [] (I1, J1, R1, 138)) (fun w M2 => (bif decide (r = w) then lp_E d a3 M2 else some (some (.int (am_i 0)), M2))) else none) else none) else none))
  refine lp_gd (show am_cs R1 138 1 _ = true from lp_cs (by rw [q2]; exact hok 1 (by decide))) ?_
  refine lp_gd (show am_cs R1 138 1 _ = true from lp_cs (by rw [q2]; exact hok 2 (by decide))) ?_
  refine lp_gd rfl ?_
  rw [q1, h2]
  show lp_P (bif decide (r = r) then lp_E d a3 (I2, J2, R2, 138) else _)
  exact lp_gd (by exact decide_eq_true rfl) (hk I2 J2 R2 hV2)

theorem lp_k3I {mx mm : Nat} (hV : V I J R) (hp : pr_I V d mx mm [(1, .int (I 1 (a3 + (am_i 1)).toNatClampNeg)), (2, .int (I 1 (a3 + (am_i 2)).toNatClampNeg)), (3, .int (I 1 (a3 + (am_i 3)).toNatClampNeg))]) (hok : ∀ j : Int, j ∈ [0, 1, 2, 3, 4, 5] → am_ok (a3 + am_i j) (R 0 0) = true) (hk : ∀ I J R, V I J R → lp_P (lp_E d a3 (I, J, R, 138))) :
    lp_P (bif am_cs R 138 1 (a3 + (am_i 1)) then (bif am_cs R 138 1 (a3 + (am_i 2)) then (bif am_cs R 138 1 (a3 + (am_i 3)) then (bif am_cf 138 3 11 then am_bI (am_E d mx 0 [(0, .ref 3), (1, .int (I 1 (a3 + (am_i 1)).toNatClampNeg)), (2, .int (I 1 (a3 + (am_i 2)).toNatClampNeg)), (3, .int (I 1 (a3 + (am_i 3)).toNatClampNeg))] [] (I, J, R, 138)) (fun v M1 => (bif am_cs M1.2.2.1 M1.2.2.2 1 (a3 + (am_i 1)) then (bif am_cs M1.2.2.1 M1.2.2.2 1 (a3 + (am_i 2)) then (bif am_cs M1.2.2.1 M1.2.2.2 1 (a3 + (am_i 3)) then (bif am_cf M1.2.2.2 64 12 then am_bI (am_E d mm 0 [(0, .ref 64), (1, .int (M1.1 1 (a3 + (am_i 1)).toNatClampNeg)), (2, .int (M1.1 1 (a3 + (am_i 2)).toNatClampNeg)), (3, .int (M1.1 1 (a3 + (am_i 3)).toNatClampNeg))] [] M1) (fun w M2 => (bif decide (v = w) then lp_E d a3 M2 else some (some (.int (am_i 0)), M2))) else none) else none) else none) else none)) else none) else none) else none) else none) := by
  obtain ⟨r, I1, J1, R1, I2, J2, R2, h1, q1, q2, h2, hV2⟩ := hp I J R hV
  refine lp_gd (lp_cs (hok 1 (by decide))) ?_
  refine lp_gd (lp_cs (hok 2 (by decide))) ?_
  refine lp_gd (lp_cs (hok 3 (by decide))) ?_
  refine lp_gd rfl ?_
  rw [h1]
  show lp_P ((bif am_cs R1 138 1 (a3 + (am_i 1)) then (bif am_cs R1 138 1 (a3 + (am_i 2)) then (bif am_cs R1 138 1 (a3 + (am_i 3)) then (bif am_cf 138 64 12 then am_bI (am_E d mm 0 [(0, .ref 64), (1, .int (I1 1 (a3 + (am_i 1)).toNatClampNeg)), (2, .int (I1 1 (a3 + (am_i 2)).toNatClampNeg)), (3, .int (I1 1 (a3 + (am_i 3)).toNatClampNeg))] [] (I1, J1, R1, 138)) (fun w M2 => (bif decide (r = w) then lp_E d a3 M2 else some (some (.int (am_i 0)), M2))) else none) else none) else none) else none))
  refine lp_gd (show am_cs R1 138 1 _ = true from lp_cs (by rw [q2]; exact hok 1 (by decide))) ?_
  refine lp_gd (show am_cs R1 138 1 _ = true from lp_cs (by rw [q2]; exact hok 2 (by decide))) ?_
  refine lp_gd (show am_cs R1 138 1 _ = true from lp_cs (by rw [q2]; exact hok 3 (by decide))) ?_
  refine lp_gd rfl ?_
  rw [q1, h2]
  show lp_P (bif decide (r = r) then lp_E d a3 (I2, J2, R2, 138) else _)
  exact lp_gd (by exact decide_eq_true rfl) (hk I2 J2 R2 hV2)

theorem lp_k5I {mx mm : Nat} (hV : V I J R) (hp : pr_I V d mx mm [(1, .int (I 1 (a3 + (am_i 1)).toNatClampNeg)), (2, .int (I 1 (a3 + (am_i 2)).toNatClampNeg)), (3, .int (I 1 (a3 + (am_i 3)).toNatClampNeg)), (4, .int (I 1 (a3 + (am_i 4)).toNatClampNeg)), (5, .int (I 1 (a3 + (am_i 5)).toNatClampNeg))]) (hok : ∀ j : Int, j ∈ [0, 1, 2, 3, 4, 5] → am_ok (a3 + am_i j) (R 0 0) = true) (hk : ∀ I J R, V I J R → lp_P (lp_E d a3 (I, J, R, 138))) :
    lp_P (bif am_cs R 138 1 (a3 + (am_i 1)) then (bif am_cs R 138 1 (a3 + (am_i 2)) then (bif am_cs R 138 1 (a3 + (am_i 3)) then (bif am_cs R 138 1 (a3 + (am_i 4)) then (bif am_cs R 138 1 (a3 + (am_i 5)) then (bif am_cf 138 3 11 then am_bI (am_E d mx 0 [(0, .ref 3), (1, .int (I 1 (a3 + (am_i 1)).toNatClampNeg)), (2, .int (I 1 (a3 + (am_i 2)).toNatClampNeg)), (3, .int (I 1 (a3 + (am_i 3)).toNatClampNeg)), (4, .int (I 1 (a3 + (am_i 4)).toNatClampNeg)), (5, .int (I 1 (a3 + (am_i 5)).toNatClampNeg))] [] (I, J, R, 138)) (fun v M1 => (bif am_cs M1.2.2.1 M1.2.2.2 1 (a3 + (am_i 1)) then (bif am_cs M1.2.2.1 M1.2.2.2 1 (a3 + (am_i 2)) then (bif am_cs M1.2.2.1 M1.2.2.2 1 (a3 + (am_i 3)) then (bif am_cs M1.2.2.1 M1.2.2.2 1 (a3 + (am_i 4)) then (bif am_cs M1.2.2.1 M1.2.2.2 1 (a3 + (am_i 5)) then (bif am_cf M1.2.2.2 64 12 then am_bI (am_E d mm 0 [(0, .ref 64), (1, .int (M1.1 1 (a3 + (am_i 1)).toNatClampNeg)), (2, .int (M1.1 1 (a3 + (am_i 2)).toNatClampNeg)), (3, .int (M1.1 1 (a3 + (am_i 3)).toNatClampNeg)), (4, .int (M1.1 1 (a3 + (am_i 4)).toNatClampNeg)), (5, .int (M1.1 1 (a3 + (am_i 5)).toNatClampNeg))] [] M1) (fun w M2 => (bif decide (v = w) then lp_E d a3 M2 else some (some (.int (am_i 0)), M2))) else none) else none) else none) else none) else none) else none)) else none) else none) else none) else none) else none) else none) := by
  obtain ⟨r, I1, J1, R1, I2, J2, R2, h1, q1, q2, h2, hV2⟩ := hp I J R hV
  refine lp_gd (lp_cs (hok 1 (by decide))) ?_
  refine lp_gd (lp_cs (hok 2 (by decide))) ?_
  refine lp_gd (lp_cs (hok 3 (by decide))) ?_
  refine lp_gd (lp_cs (hok 4 (by decide))) ?_
  refine lp_gd (lp_cs (hok 5 (by decide))) ?_
  refine lp_gd rfl ?_
  rw [h1]
  show lp_P ((bif am_cs R1 138 1 (a3 + (am_i 1)) then (bif am_cs R1 138 1 (a3 + (am_i 2)) then (bif am_cs R1 138 1 (a3 + (am_i 3)) then (bif am_cs R1 138 1 (a3 + (am_i 4)) then (bif am_cs R1 138 1 (a3 + (am_i 5)) then (bif am_cf 138 64 12 then am_bI (am_E d mm 0 [(0, .ref 64), (1, .int (I1 1 (a3 + (am_i 1)).toNatClampNeg)), (2, .int (I1 1 (a3 + (am_i 2)).toNatClampNeg)), (3, .int (I1 1 (a3 + (am_i 3)).toNatClampNeg)), (4, .int (I1 1 (a3 + (am_i 4)).toNatClampNeg)), (5, .int (I1 1 (a3 + (am_i 5)).toNatClampNeg))] [] (I1, J1, R1, 138)) (fun w M2 => (bif decide (r = w) then lp_E d a3 M2 else some (some (.int (am_i 0)), M2))) else none) else none) else none) else none) else none) else none))
  refine lp_gd (show am_cs R1 138 1 _ = true from lp_cs (by rw [q2]; exact hok 1 (by decide))) ?_
  refine lp_gd (show am_cs R1 138 1 _ = true from lp_cs (by rw [q2]; exact hok 2 (by decide))) ?_
  refine lp_gd (show am_cs R1 138 1 _ = true from lp_cs (by rw [q2]; exact hok 3 (by decide))) ?_
  refine lp_gd (show am_cs R1 138 1 _ = true from lp_cs (by rw [q2]; exact hok 4 (by decide))) ?_
  refine lp_gd (show am_cs R1 138 1 _ = true from lp_cs (by rw [q2]; exact hok 5 (by decide))) ?_
  refine lp_gd rfl ?_
  rw [q1, h2]
  show lp_P (bif decide (r = r) then lp_E d a3 (I2, J2, R2, 138) else _)
  exact lp_gd (by exact decide_eq_true rfl) (hk I2 J2 R2 hV2)

theorem lp_k0L {mx mm : Nat} (hV : V I J R) (hp : pr_L V d mx mm []) (hok : ∀ j : Int, j ∈ [0, 1, 2, 3, 4, 5] → am_ok (a3 + am_i j) (R 0 0) = true) (hk : ∀ I J R, V I J R → lp_P (lp_E d a3 (I, J, R, 138))) :
    lp_P (bif am_cf 138 3 11 then am_bL (am_E d mx 0 [(0, .ref 3)] [] (I, J, R, 138)) (fun v M1 => (bif am_cf M1.2.2.2 64 12 then am_bL (am_E d mm 0 [(0, .ref 64)] [] M1) (fun w M2 => (bif decide ((lg_cmp v w) = 0) then lp_E d a3 M2 else some (some (.int (am_i 0)), M2))) else none)) else none) := by
  obtain ⟨r, I1, J1, R1, I2, J2, R2, h1, q1, q2, h2, hV2⟩ := hp I J R hV
  refine lp_gd rfl ?_
  rw [h1]
  show lp_P ((bif am_cf 138 64 12 then am_bL (am_E d mm 0 [(0, .ref 64)] [] (I1, J1, R1, 138)) (fun w M2 => (bif decide ((lg_cmp r w) = 0) then lp_E d a3 M2 else some (some (.int (am_i 0)), M2))) else none))
  refine lp_gd rfl ?_
  rw [h2]
  show lp_P (bif decide ((lg_cmp r r) = 0) then lp_E d a3 (I2, J2, R2, 138) else _)
  exact lp_gd (by exact decide_eq_true (lp_lg r)) (hk I2 J2 R2 hV2)

theorem lp_k2L {mx mm : Nat} (hV : V I J R) (hp : pr_L V d mx mm [(1, .int (I 1 (a3 + (am_i 1)).toNatClampNeg)), (2, .int (I 1 (a3 + (am_i 2)).toNatClampNeg))]) (hok : ∀ j : Int, j ∈ [0, 1, 2, 3, 4, 5] → am_ok (a3 + am_i j) (R 0 0) = true) (hk : ∀ I J R, V I J R → lp_P (lp_E d a3 (I, J, R, 138))) :
    lp_P (bif am_cs R 138 1 (a3 + (am_i 1)) then (bif am_cs R 138 1 (a3 + (am_i 2)) then (bif am_cf 138 3 11 then am_bL (am_E d mx 0 [(0, .ref 3), (1, .int (I 1 (a3 + (am_i 1)).toNatClampNeg)), (2, .int (I 1 (a3 + (am_i 2)).toNatClampNeg))] [] (I, J, R, 138)) (fun v M1 => (bif am_cs M1.2.2.1 M1.2.2.2 1 (a3 + (am_i 1)) then (bif am_cs M1.2.2.1 M1.2.2.2 1 (a3 + (am_i 2)) then (bif am_cf M1.2.2.2 64 12 then am_bL (am_E d mm 0 [(0, .ref 64), (1, .int (M1.1 1 (a3 + (am_i 1)).toNatClampNeg)), (2, .int (M1.1 1 (a3 + (am_i 2)).toNatClampNeg))] [] M1) (fun w M2 => (bif decide ((lg_cmp v w) = 0) then lp_E d a3 M2 else some (some (.int (am_i 0)), M2))) else none) else none) else none)) else none) else none) else none) := by
  obtain ⟨r, I1, J1, R1, I2, J2, R2, h1, q1, q2, h2, hV2⟩ := hp I J R hV
  refine lp_gd (lp_cs (hok 1 (by decide))) ?_
  refine lp_gd (lp_cs (hok 2 (by decide))) ?_
  refine lp_gd rfl ?_
  rw [h1]
  show lp_P ((bif am_cs R1 138 1 (a3 + (am_i 1)) then (bif am_cs R1 138 1 (a3 + (am_i 2)) then (bif am_cf 138 64 12 then am_bL (am_E d mm 0 [(0, .ref 64), (1, .int (I1 1 (a3 + (am_i 1)).toNatClampNeg)), (2, .int (I1 1 (a3 + (am_i 2)).toNatClampNeg))] [] (I1, J1, R1, 138)) (fun w M2 => (bif decide ((lg_cmp r w) = 0) then lp_E d a3 M2 else some (some (.int (am_i 0)), M2))) else none) else none) else none))
  refine lp_gd (show am_cs R1 138 1 _ = true from lp_cs (by rw [q2]; exact hok 1 (by decide))) ?_
  refine lp_gd (show am_cs R1 138 1 _ = true from lp_cs (by rw [q2]; exact hok 2 (by decide))) ?_
  refine lp_gd rfl ?_
  rw [q1, h2]
  show lp_P (bif decide ((lg_cmp r r) = 0) then lp_E d a3 (I2, J2, R2, 138) else _)
  exact lp_gd (by exact decide_eq_true (lp_lg r)) (hk I2 J2 R2 hV2)
end LPS
theorem am_i_add (a b : Int) : am_i a + am_i b = am_i (a + b) := (Int32.ofInt_add a b).symm
theorem am_i_sub (a b : Int) : am_i a - am_i b = am_i (a - b) := (Int32.ofInt_sub a b).symm
theorem am_i_lt {a b : Int} (ha : -2147483648 ≤ a) (ha2 : a < 2147483648) (hb : -2147483648 ≤ b) (hb2 : b < 2147483648) : am_i a < am_i b ↔ a < b := by
  rw [Int32.lt_iff_toInt_lt, am_i_toInt ha ha2, am_i_toInt hb hb2]
theorem am_i_le {a b : Int} (ha : -2147483648 ≤ a) (ha2 : a < 2147483648) (hb : -2147483648 ≤ b) (hb2 : b < 2147483648) : am_i a ≤ am_i b ↔ a ≤ b := by
  rw [Int32.le_iff_toInt_le, am_i_toInt ha ha2, am_i_toInt hb hb2]
theorem am_i_cl {a : Int} (ha : -2147483648 ≤ a) (ha2 : a < 2147483648) : (am_i a).toNatClampNeg = a.toNat := by
  show (am_i a).toInt.toNat = a.toNat
  rw [am_i_toInt ha ha2]
theorem am_ok_i {a : Int} {n : Nat} (h0 : 0 ≤ a) (h1 : a < n) (hn : n < 2147483648) : am_ok (am_i a) n = true := by
  unfold am_ok
  rw [am_i_cl (by omega) (by omega)]
  have h2 : (0 : Int32) ≤ am_i a := by
    rw [Int32.le_iff_toInt_le, am_i_toInt (by omega) (by omega)]
    exact h0
  have h3 : a.toNat < n := by omega
  simp [h2, h3]
/-- all the pairs -/
def lp_All (V : (Nat → Nat → Int32) → (Nat → Nat → Int64) → (Nat → Nat → Nat) → Prop) (d : Nat) : Prop :=
  (∀ a1 a2 a3 a4 a5 : Int32, pr_I V d 100 165 [(1, .int a1), (2, .int a2), (3, .int a3), (4, .int a4), (5, .int a5)]) ∧
  (∀ a1 : Int32, pr_I V d 101 166 [(1, .int a1)]) ∧
  pr_I V d 102 189 [] ∧
  (∀ a1 : Int32, pr_I V d 103 191 [(1, .int a1)]) ∧
  (∀ a1 : Int32, pr_I V d 104 218 [(1, .int a1)]) ∧
  (∀ a1 a2 a3 : Int32, pr_I V d 105 219 [(1, .int a1), (2, .int a2), (3, .int a3)]) ∧
  (∀ a1 a2 : Int32, pr_I V d 106 220 [(1, .int a1), (2, .int a2)]) ∧
  (∀ a1 a2 : Int32, pr_I V d 107 221 [(1, .int a1), (2, .int a2)]) ∧
  (∀ a1 a2 : Int32, pr_L V d 108 222 [(1, .int a1), (2, .int a2)]) ∧
  (∀ a1 a2 : Int32, pr_I V d 109 223 [(1, .int a1), (2, .int a2)]) ∧
  (∀ a1 : Int32, pr_I V d 110 224 [(1, .int a1)]) ∧
  (∀ a1 a2 : Int32, pr_I V d 111 225 [(1, .int a1), (2, .int a2)]) ∧
  (∀ a1 a2 a3 : Int32, pr_I V d 112 226 [(1, .int a1), (2, .int a2), (3, .int a3)]) ∧
  (∀ a1 : Int32, pr_I V d 113 228 [(1, .int a1)]) ∧
  (∀ a1 : Int32, pr_I V d 114 229 [(1, .int a1)]) ∧
  (∀ a1 a2 : Int32, pr_I V d 115 230 [(1, .int a1), (2, .int a2)]) ∧
  (∀ a1 a2 a3 : Int32, pr_I V d 116 234 [(1, .int a1), (2, .int a2), (3, .int a3)]) ∧
  (∀ a1 a2 a3 : Int32, pr_I V d 117 235 [(1, .int a1), (2, .int a2), (3, .int a3)]) ∧
  (∀ a1 a2 a3 : Int32, pr_I V d 118 236 [(1, .int a1), (2, .int a2), (3, .int a3)]) ∧
  (∀ a1 : Int32, pr_I V d 119 239 [(1, .int a1)]) ∧
  pr_I V d 120 241 [] ∧
  pr_I V d 121 245 [] ∧
  (∀ a1 : Int32, pr_I V d 122 247 [(1, .int a1)]) ∧
  (∀ a1 a2 : Int32, pr_I V d 123 251 [(1, .int a1), (2, .int a2)]) ∧
  (∀ a1 a2 : Int32, pr_I V d 124 252 [(1, .int a1), (2, .int a2)]) ∧
  (∀ a1 : Int32, pr_I V d 125 253 [(1, .int a1)]) ∧
  (∀ a1 a2 a3 : Int32, pr_I V d 126 254 [(1, .int a1), (2, .int a2), (3, .int a3)]) ∧
  (∀ a1 : Int32, pr_I V d 127 255 [(1, .int a1)]) ∧
  (∀ a1 : Int32, pr_I V d 128 258 [(1, .int a1)]) ∧
  pr_I V d 129 249 [] ∧
  (∀ a1 : Int32, pr_I V d 130 256 [(1, .int a1)]) ∧
  pr_L V d 131 287 [] ∧
  pr_I V d 132 290 [] ∧
  (∀ a1 : Int32, pr_I V d 133 291 [(1, .int a1)]) ∧
  pr_I V d 134 294 [] ∧
  (∀ a1 : Int32, pr_I V d 135 295 [(1, .int a1)])
theorem lp_loop {V : (Nat → Nat → Int32) → (Nat → Nat → Int64) → (Nat → Nat → Nat) → Prop} {d L : Nat} {xs : Nat → Int32} (hL : L ≤ 3072) (hVs : ∀ I J R, V I J R → I 1 = xs ∧ R 0 0 = L) (hA : lp_All V d) : ∀ (n q : Nat) (I : Nat → Nat → Int32) (J : Nat → Nat → Int64) (R : Nat → Nat → Nat), V I J R → L ≤ 6 * q + n → q ≤ 512 → lp_P (am_E (d + 1) 296 18 [(0, .ref 1), (1, .ref 3), (2, .ref 64), (3, .int (am_i (6 * q : Nat)))] [] (I, J, R, 138)) := by
  intro n
  induction n using Nat.strongRecOn with
  | _ n ih =>
    intro q I J R hV hn hq
    obtain ⟨hI, hR⟩ := hVs I J R hV
    rw [sg_L_law_18]
    refine lp_gd rfl ?_
    have hln : am_i (am_ln R 1 : Nat) - am_i 6 = am_i ((L : Int) - 6) := by
      show am_i ((R 0 0 : Nat) : Int) - am_i 6 = _
      rw [hR, am_i_sub]
    show lp_P (bif decide (am_i (am_ln R 1 : Nat) - am_i 6 < am_i (6 * q : Nat)) then _ else _)
    rw [hln]
    have hlt := am_i_lt (a := (L : Int) - 6) (b := ((6 * q : Nat) : Int)) (by omega) (by omega) (by omega) (by omega)
    refine lp_bif (fun h => ?_) (fun h => ?_)
    · exact ⟨(I, J, R, 138), by rw [show am_i 1 = 1 from by decide], Nat.le_refl _⟩
    · have h2 : ¬ (L : Int) - 6 < ((6 * q : Nat) : Int) := fun hh => by
        have := decide_eq_false_iff_not.mp h
        exact this (hlt.mpr hh)
      have hok : ∀ j : Int, j ∈ [0, 1, 2, 3, 4, 5] → am_ok (am_i (6 * q : Nat) + am_i j) (R 0 0) = true := by
        intro j hj
        have hj2 : 0 ≤ j ∧ j ≤ 5 := by
          simp only [List.mem_cons, List.not_mem_nil, or_false] at hj
          omega
        rw [am_i_add, hR]
        exact am_ok_i (by omega) (by omega) (by omega)
      have hk : ∀ I J R, V I J R → lp_P (lp_E d (am_i (6 * q : Nat)) (I, J, R, 138)) := by
        intro I J R hV
        show lp_P (am_E _ _ _ _ _ _)
        rw [sg_L_law_1192]
        show lp_P (am_E (d + 1) 296 18 [(0, .ref 1), (1, .ref 3), (2, .ref 64), (3, .int (am_i (6 * q : Nat) + am_i 6))] [] (I, J, R, 138))
        have e : am_i (6 * q : Nat) + am_i 6 = am_i (6 * (q + 1) : Nat) := by
          rw [am_i_add]; rfl
        rw [e]
        exact ih (n - 6) (by omega) (q + 1) I J R hV (by omega) (by omega)
      refine lp_gd (show am_cs R 138 1 (am_i (6 * q : Nat)) = true from ?_) ?_
      · have := hok 0 (by decide)
        rw [am_i_add, Int.add_zero] at this
        exact lp_cs this
      obtain ⟨p0, p1, p2, p3, p4, p5, p6, p7, p8, p9, p10, p11, p12, p13, p14, p15, p16, p17, p18, p19, p20, p21, p22, p23, p24, p25, p26, p27, p28, p29, p30, p31, p32, p33, p34, p35⟩ := hA
      refine lp_bif (fun _ => lp_k5I hV (p0 _ _ _ _ _) hok hk) (fun _ => ?_)
      refine lp_bif (fun _ => lp_k1I hV (p1 _) hok hk) (fun _ => ?_)
      refine lp_bif (fun _ => lp_k0I hV p2 hok hk) (fun _ => ?_)
      refine lp_bif (fun _ => lp_k1I hV (p3 _) hok hk) (fun _ => ?_)
      refine lp_bif (fun _ => lp_k1I hV (p4 _) hok hk) (fun _ => ?_)
      refine lp_bif (fun _ => lp_k3I hV (p5 _ _ _) hok hk) (fun _ => ?_)
      refine lp_bif (fun _ => lp_k2I hV (p6 _ _) hok hk) (fun _ => ?_)
      refine lp_bif (fun _ => lp_k2I hV (p7 _ _) hok hk) (fun _ => ?_)
      refine lp_bif (fun _ => lp_k2L hV (p8 _ _) hok hk) (fun _ => ?_)
      refine lp_bif (fun _ => lp_k2I hV (p9 _ _) hok hk) (fun _ => ?_)
      refine lp_bif (fun _ => lp_k1I hV (p10 _) hok hk) (fun _ => ?_)
      refine lp_bif (fun _ => lp_k2I hV (p11 _ _) hok hk) (fun _ => ?_)
      refine lp_bif (fun _ => lp_k3I hV (p12 _ _ _) hok hk) (fun _ => ?_)
      refine lp_bif (fun _ => lp_k1I hV (p13 _) hok hk) (fun _ => ?_)
      refine lp_bif (fun _ => lp_k1I hV (p14 _) hok hk) (fun _ => ?_)
      refine lp_bif (fun _ => lp_k2I hV (p15 _ _) hok hk) (fun _ => ?_)
      refine lp_bif (fun _ => lp_k3I hV (p16 _ _ _) hok hk) (fun _ => ?_)
      refine lp_bif (fun _ => lp_k3I hV (p17 _ _ _) hok hk) (fun _ => ?_)
      refine lp_bif (fun _ => lp_k3I hV (p18 _ _ _) hok hk) (fun _ => ?_)
      refine lp_bif (fun _ => lp_k1I hV (p19 _) hok hk) (fun _ => ?_)
      refine lp_bif (fun _ => lp_k0I hV p20 hok hk) (fun _ => ?_)
      refine lp_bif (fun _ => lp_k0I hV p21 hok hk) (fun _ => ?_)
      refine lp_bif (fun _ => lp_k1I hV (p22 _) hok hk) (fun _ => ?_)
      refine lp_bif (fun _ => lp_k2I hV (p23 _ _) hok hk) (fun _ => ?_)
      refine lp_bif (fun _ => lp_k2I hV (p24 _ _) hok hk) (fun _ => ?_)
      refine lp_bif (fun _ => lp_k1I hV (p25 _) hok hk) (fun _ => ?_)
      refine lp_bif (fun _ => lp_k3I hV (p26 _ _ _) hok hk) (fun _ => ?_)
      refine lp_bif (fun _ => lp_k1I hV (p27 _) hok hk) (fun _ => ?_)
      refine lp_bif (fun _ => lp_k1I hV (p28 _) hok hk) (fun _ => ?_)
      refine lp_bif (fun _ => lp_k0I hV p29 hok hk) (fun _ => ?_)
      refine lp_bif (fun _ => lp_k1I hV (p30 _) hok hk) (fun _ => ?_)
      refine lp_bif (fun _ => lp_k0L hV p31 hok hk) (fun _ => ?_)
      refine lp_bif (fun _ => lp_k0I hV p32 hok hk) (fun _ => ?_)
      refine lp_bif (fun _ => lp_k1I hV (p33 _) hok hk) (fun _ => ?_)
      refine lp_bif (fun _ => lp_k0I hV p34 hok hk) (fun _ => ?_)
      refine lp_bif (fun _ => lp_k1I hV (p35 _) hok hk) (fun _ => ?_)
      exact hk I J R hV
theorem lp_goal {V : Nat → (Nat → Int32) → (Nat → Nat → Int32) → (Nat → Nat → Int64) → (Nat → Nat → Nat) → Prop} (hVs : ∀ L xs I J R, V L xs I J R → I 1 = xs ∧ R 0 0 = L) (hA : ∀ L xs, L ≤ 3072 → lp_All (V L xs) 999) (h0 : ∀ L xs, V L xs (am_I1 xs) am_J1 (am_R1 L)) : am_Goal := by
  intro L xs hL
  rw [law_init 995 L xs]
  exact lp_loop (d := 999) hL (hVs L xs) (hA L xs hL) L 0 _ _ _ (h0 L xs) (by omega) (by omega)
