/-! ===== at the start ===== -/
def agr (f g : tI) : Prop := ∀ c, c ≠ 1 → f c = g c
theorem agr_up {f g : tI} {a k : Nat} {v : Int32} (h : agr f g) : agr (am_up f a k v) (am_up g a k v) := fun c hc => by
  rw [am_up_ap, am_up_ap, h c hc]
theorem agr_cl {f g : tI} {a : Nat} {v : Int32} (h : agr f g) : agr (am_cl f a v) (am_cl g a v) := fun c hc => by
  funext j
  unfold am_cl
  by_cases e : c = a
  · rw [if_pos e, if_pos e]
  · rw [if_neg e, if_neg e, h c hc]
theorem agr_0 (xs ys : Nat → Int32) : agr (fun c j => if c = 1 then xs j else 0) (fun c j => if c = 1 then ys j else 0) := fun c hc => by
  funext j
  show (if c = 1 then xs j else 0) = (if c = 1 then ys j else 0)
  rw [if_neg hc, if_neg hc]
set_option maxRecDepth 100000 in
theorem agr_1 (xs ys : Nat → Int32) : agr (am_I1 xs) (am_I1 ys) := by
  unfold am_I1
  repeat (first
    | exact agr_0 xs ys
    | apply agr_up
    | apply agr_cl
    | unfold sc_I
    | unfold ii_ct_X9_5
    | unfold ii_ct_X11_3_0
    | unfold ii_ct_X11_3_1
    | unfold ii_ct_X3_8_0
    | unfold ii_ct_X3_8
    | unfold ii_ct_X11_3_2
    | unfold ii_ct_X1_10_0
    | unfold ii_ct_X1_10_1
    | unfold ii_ct_X1_10
    | unfold ii_ct_X11_3_3
    | unfold ii_ct_X1_20_0
    | unfold ii_ct_X1_20_1
    | unfold ii_ct_X1_20
    | unfold ii_ct_X11_3_4
    | unfold ii_ct_X11_3_5
    | unfold ii_ct_X11_3_6
    | unfold ii_ct_X10_30_0
    | unfold ii_ct_X10_30
    | unfold ii_ct_X11_3_7
    | unfold ii_ct_X0_33_0
    | unfold ii_ct_X0_33
    | unfold ii_ct_X11_3_8
    | unfold ii_ct_X5_35_0
    | unfold ii_ct_X6_36_0
    | unfold ii_ct_X6_36
    | unfold ii_ct_X5_35_1
    | unfold ii_ct_X5_35
    | unfold ii_ct_X11_3_9
    | unfold ii_ct_X5_42_0
    | unfold ii_ct_X6_43_0
    | unfold ii_ct_X6_43
    | unfold ii_ct_X5_42_1
    | unfold ii_ct_X5_42
    | unfold ii_ct_X11_3_10
    | unfold ii_ct_X8_49_0
    | unfold ii_ct_X8_49
    | unfold ii_ct_X11_3_11
    | unfold ii_ct_X2_52_0
    | unfold ii_ct_X2_52
    | unfold ii_ct_X11_3_12
    | unfold ii_ct_X4_57_0
    | unfold ii_ct_X4_57
    | unfold ii_ct_X11_3_13
    | unfold ii_ct_X7_61_0
    | unfold ii_ct_X7_61
    | unfold ii_ct_X11_3_14
    | unfold ii_ct_X11_3
    | unfold ii_ct_X12_64_0
    | unfold ii_ct_X12_64_1
    | unfold ii_ct_X12_64_2
    | unfold ii_ct_X12_64_3
    | unfold ii_ct_X12_64_4
    | unfold ii_ct_X12_64_5
    | unfold ii_ct_X12_64_6
    | unfold ii_ct_X12_64_7
    | unfold ii_ct_X12_64_8
    | unfold ii_ct_X12_64_9
    | unfold ii_ct_X12_64_10
    | unfold ii_ct_X12_64_11
    | unfold ii_ct_X12_64_12
    | unfold ii_ct_X12_64_13
    | unfold ii_ct_X12_64_14
    | unfold ii_ct_X12_64_15
    | unfold ii_ct_X12_64_16
    | unfold ii_ct_X12_64_17
    | unfold ii_ct_X12_64_18
    | unfold ii_ct_X12_64_19
    | unfold ii_ct_X12_64
    )
set_option maxRecDepth 100000 in
theorem st_vMut (L : Nat) : vMut (am_R1 L) := ⟨Or.inl ⟨rfl, rfl⟩, Or.inr rfl, Or.inl rfl, Or.inl rfl, Or.inr rfl⟩
theorem z0 : (0 : Int32) = am_i ((0 : Nat) : Int) := by decide
set_option maxRecDepth 100000 in
theorem st_rest (L : Nat) (xs : Nat → Int32) : restW (am_I1 xs) am_J1 (am_R1 L) := by
  have c16 : am_I1 xs 16 = fun _ => 0 := rfl
  have c99 : am_I1 xs 99 = fun _ => 0 := rfl
  refine ⟨10, 0, 0, 0, 0, 0, 0, 0, fun _ => 0, fun _ => 0, fun _ => [], rfl, Or.inl rfl, ?_, ⟨fun b h => absurd h (by omega), fun r h => absurd h (by omega)⟩, fun h => absurd rfl h, ?_, ?_, fun q hf => agr_1 xs (fun _ => 0) q ?_⟩
  · refine ⟨Or.inl rfl, by decide, by decide, by decide, by decide, by decide, by decide, fun _ => ⟨rfl, rfl, rfl⟩, z0, z0, z0, z0, z0, z0, z0, z0, z0, z0, z0, z0, z0, z0, fun b h => absurd h (by omega), fun r h => absurd h (by omega), fun m hm => ⟨(by decide : 0 < 256), ?_, fun v hv => ?_⟩⟩
    · rw [c16]; exact z0
    · rw [c99]
      show (0 : Int32) = am_i ((0 / 2 ^ v % 2 : Nat) : Int)
      rw [Nat.zero_div]
      exact z0
  · exact ⟨0, fun _ => ⟨0, 0, 0, 0, 0, fun _ => 0⟩, ⟨by decide, z0, z0, fun b h => absurd h (by omega)⟩, ⟨z0, z0, fun k h => absurd h (by simp)⟩, by decide⟩
  · exact ⟨0, 0, fun _ => 0, by decide, by decide, z0, z0, z0, z0, rfl, fun j h => absurd h (by omega)⟩
  · intro e
    subst e
    exact absurd hf (by decide)
set_option maxRecDepth 100000 in
theorem st_vV (L : Nat) (xs : Nat → Int32) : vV restW L xs (am_I1 xs) am_J1 (am_R1 L) := by
  refine ⟨⟨rfl, rfl, st_Rx_1 L, st_Rm_1 L, st_vMut L⟩, ?_, ?_, ⟨rfl, rfl⟩, ?_, ?_, ?_, st_rest L xs⟩
  · exact ⟨0, by decide, z0, z0, fun k h => absurd h (by omega)⟩
  · have c63 : am_I1 xs 63 = fun _ => 0 := rfl
    have c66 : am_I1 xs 66 = fun _ => 0 := rfl
    intro k _
    rw [c63, c66]
  · exact ⟨0, by decide, z0, z0, fun k h => absurd h (by omega)⟩
  · exact ⟨0, by decide, z0, z0, fun k h => absurd h (by omega)⟩
  · exact ⟨1, by decide, rfl, rfl⟩
