/-! ===== stretches of code ===== -/
def am_gos : Nat → Nat → Nat → am_Ls → List Value → am_Mem → Option (Nat × am_Ls × List Value × am_Mem)
  | 0, _, pc, ls, st, M => some (pc, ls, st, M)
  | k + 1, mi, pc, ls, st, M => match am_stp mi pc ls st M with
    | some (.inl (pc', ls', st', M')) => am_gos k mi pc' (am_nm mi pc' ls') st' M'
    | _ => none
theorem am_E_gos {d : Nat} : ∀ (k : Nat) {mi pc : Nat} {ls : am_Ls} {st : List Value} {M : am_Mem} {pc' : Nat} {ls' : am_Ls} {st' : List Value} {M' : am_Mem}, am_gos k mi pc ls st M = some (pc', ls', st', M') → am_E d mi pc ls st M = am_E d mi pc' ls' st' M'
  | 0, _, _, _, _, _, _, _, _, _, h => by cases h; rfl
  | k + 1, mi, pc, ls, st, M, _, _, _, _, h => by
    unfold am_gos at h
    split at h
    · rename_i hs
      rw [am_E_go hs]
      exact am_E_gos k h
    · cases h
section AMG
variable {d mi pc : Nat} {ls : am_Ls} {st : List Value} {M : am_Mem} {b : Bool} {pc' : Nat} {ls' l1 l2 : am_Ls} {st' : List Value} {M' : am_Mem} {r1 r2 rhs : am_R} {p1 p2 : Nat} {x : Int32} {dd : Nat}
theorem am_S_if (h : am_stp mi pc ls st M = am_if b (some (.inl (pc', ls', st', M')))) (hn : am_nm mi pc' ls' = l1) (k : b = true → am_E d mi pc' l1 st' M' = rhs) : am_E d mi pc ls st M = bif b then rhs else none := by
  rw [am_E_if h, hn]
  cases b with
  | true => exact k rfl
  | false => rfl
theorem am_S_t (hb : b = true) (h : am_stp mi pc ls st M = am_if b (some (.inl (pc', ls', st', M')))) (hn : am_nm mi pc' ls' = l1) (k : am_E d mi pc' l1 st' M' = rhs) : am_E d mi pc ls st M = rhs := by
  subst hb
  rw [am_E_go h, hn]
  exact k
theorem am_S_br (h : am_stp mi pc ls st M = some (.inl (bif b then p1 else p2, ls', st', M'))) (h1 : am_nm mi p1 ls' = l1) (h2 : am_nm mi p2 ls' = l2) (k1 : am_E d mi p1 l1 st' M' = r1) (k2 : am_E d mi p2 l2 st' M' = r2) : am_E d mi pc ls st M = bif b then r1 else r2 := by
  rw [am_E_go h, am_E_br, h1, h2, k1, k2]
theorem am_S_sw {L : List (Int × Nat)} (h : am_stp mi pc ls st M = some (.inl (am_pick x L dd, ls', st', M'))) (k : am_E d mi (am_pick x L dd) (am_nm mi (am_pick x L dd) ls') st' M' = rhs) : am_E d mi pc ls st M = rhs := by
  rw [am_E_go h]; exact k
theorem am_S_pk {v : Int} {t : Nat} {r : List (Int × Nat)} (h1 : am_nm mi t ls = l1) (k1 : am_E d mi t l1 st M = r1) (k2 : am_E d mi (am_pick x r dd) (am_nm mi (am_pick x r dd) ls) st M = r2) : am_E d mi (am_pick x ((v, t) :: r) dd) (am_nm mi (am_pick x ((v, t) :: r) dd) ls) st M = bif decide (x = am_i v) then r1 else r2 := by
  by_cases hx : x = am_i v
  · have e : am_pick x ((v, t) :: r) dd = t := if_pos hx
    rw [e, h1, k1]
    simp [hx]
  · have e : am_pick x ((v, t) :: r) dd = am_pick x r dd := if_neg hx
    rw [e, k2]
    simp [hx]
theorem am_S_p0 (h1 : am_nm mi dd ls = l1) (k1 : am_E d mi dd l1 st M = r1) : am_E d mi (am_pick x [] dd) (am_nm mi (am_pick x [] dd) ls) st M = r1 := by
  show am_E d mi dd (am_nm mi dd ls) st M = r1
  rw [h1, k1]
theorem am_S_rt (hb : b = true) {v : Option Value} (h : am_stp mi pc ls st M = am_if b (some (.inr (.inr v)))) : am_E d mi pc ls st M = some (v, M) := by
  subst hb
  exact am_E_ret h
variable {mj : Nat} {as : List Value} {la : am_Ls} {rest : List Value}
theorem am_S_cI (h : am_stp mi pc ls st M = am_if b (some (.inr (.inl (mj, as, pc', ls', rest, M'))))) (hr : am_rt mj = some .int ∨ am_rt mj = some .boolean) (hw : Nat.ble (am_w as) (am_ml mj) = true) (ha : lv_args 0 as = la) (hn : am_nm mi pc' ls' = l1) {r : Int32 → am_Mem → am_R} (k : b = true → ∀ v M1, am_E (d + 1) mi pc' l1 (.int v :: rest) M1 = r v M1) : am_E (d + 1) mi pc ls st M = bif b then am_bI (am_E d mj 0 la [] M') r else none := by
  rw [am_E_cI h hr hw, ha, hn]
  cases b with
  | true => show am_bI _ _ = am_bI _ _; congr 1; funext v M1; exact k rfl v M1
  | false => rfl
theorem am_S_cL (h : am_stp mi pc ls st M = am_if b (some (.inr (.inl (mj, as, pc', ls', rest, M'))))) (hr : am_rt mj = some .long) (hw : Nat.ble (am_w as) (am_ml mj) = true) (ha : lv_args 0 as = la) (hn : am_nm mi pc' ls' = l1) {r : Int64 → am_Mem → am_R} (k : b = true → ∀ v M1, am_E (d + 1) mi pc' l1 (.long v :: rest) M1 = r v M1) : am_E (d + 1) mi pc ls st M = bif b then am_bL (am_E d mj 0 la [] M') r else none := by
  rw [am_E_cL h hr hw, ha, hn]
  cases b with
  | true => show am_bL _ _ = am_bL _ _; congr 1; funext v M1; exact k rfl v M1
  | false => rfl
theorem am_S_cV (h : am_stp mi pc ls st M = am_if b (some (.inr (.inl (mj, as, pc', ls', rest, M'))))) (hr : am_rt mj = none) (hw : Nat.ble (am_w as) (am_ml mj) = true) (ha : lv_args 0 as = la) (hn : am_nm mi pc' ls' = l1) {r : am_Mem → am_R} (k : b = true → ∀ M1, am_E (d + 1) mi pc' l1 rest M1 = r M1) : am_E (d + 1) mi pc ls st M = bif b then am_bV (am_E d mj 0 la [] M') r else none := by
  rw [am_E_cV h hr hw, ha, hn]
  cases b with
  | true => show am_bV _ _ = am_bV _ _; congr 1; funext M1; exact k rfl M1
  | false => rfl
theorem am_S_kI (hb : b = true) (h : am_stp mi pc ls st M = am_if b (some (.inr (.inl (mj, as, pc', ls', rest, M'))))) (hr : am_rt mj = some .int ∨ am_rt mj = some .boolean) (hw : Nat.ble (am_w as) (am_ml mj) = true) (ha : lv_args 0 as = la) (hn : am_nm mi pc' ls' = l1) {r : Int32 → am_Mem → am_R} (k : ∀ v M1, am_E (d + 1) mi pc' l1 (.int v :: rest) M1 = r v M1) : am_E (d + 1) mi pc ls st M = am_bI (am_E d mj 0 la [] M') r := by
  rw [am_S_cI h hr hw ha hn (fun _ => k), hb]; rfl
theorem am_S_kL (hb : b = true) (h : am_stp mi pc ls st M = am_if b (some (.inr (.inl (mj, as, pc', ls', rest, M'))))) (hr : am_rt mj = some .long) (hw : Nat.ble (am_w as) (am_ml mj) = true) (ha : lv_args 0 as = la) (hn : am_nm mi pc' ls' = l1) {r : Int64 → am_Mem → am_R} (k : ∀ v M1, am_E (d + 1) mi pc' l1 (.long v :: rest) M1 = r v M1) : am_E (d + 1) mi pc ls st M = am_bL (am_E d mj 0 la [] M') r := by
  rw [am_S_cL h hr hw ha hn (fun _ => k), hb]; rfl
theorem am_S_kV (hb : b = true) (h : am_stp mi pc ls st M = am_if b (some (.inr (.inl (mj, as, pc', ls', rest, M'))))) (hr : am_rt mj = none) (hw : Nat.ble (am_w as) (am_ml mj) = true) (ha : lv_args 0 as = la) (hn : am_nm mi pc' ls' = l1) {r : am_Mem → am_R} (k : ∀ M1, am_E (d + 1) mi pc' l1 rest M1 = r M1) : am_E (d + 1) mi pc ls st M = am_bV (am_E d mj 0 la [] M') r := by
  rw [am_S_cV h hr hw ha hn (fun _ => k), hb]; rfl
end AMG
theorem am_zb0 : am_zb (am_i 0) = true := by decide
theorem am_zb1 : am_zb (am_i 1) = true := by decide
/-- a name for a value -/
def am_let {α : Type} (x : α) (f : α → am_R) : am_R := f x
theorem am_S_w {α : Type} {x : α} {f g : α → am_R} (k : ∀ y, g y = f y) : g x = am_let x f := k x
