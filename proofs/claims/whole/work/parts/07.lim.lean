/-! ===== the machine without a count of steps ===== -/
theorem am_F_mono {rec rec' : Nat → Nat → am_Ls → List Value → am_Mem → am_R} {call call' : Nat → List Value → am_Mem → am_R} (h1 : ∀ mi pc ls st M r, rec mi pc ls st M = some r → rec' mi pc ls st M = some r) (h2 : ∀ mj as M r, call mj as M = some r → call' mj as M = some r)
    (mi pc : Nat) (ls : am_Ls) (st : List Value) (M : am_Mem) (r) (h : am_F rec call mi pc ls st M = some r) : am_F rec' call' mi pc ls st M = some r := by
  unfold am_F at h ⊢
  generalize am_stp mi pc ls st M = o at h ⊢
  rcases o with _ | ⟨⟨pc1, ls1, st1, M1⟩ | ⟨⟨mj, as, pc1, ls1, rest, M1⟩ | v⟩⟩
  · exact h
  · exact h1 _ _ _ _ _ _ h
  · dsimp only [am_Fo] at h ⊢
    cases hc : call mj as M1 with
    | none => rw [hc] at h; exact absurd h (by simp)
    | some q =>
      rw [hc] at h
      rw [h2 _ _ _ _ hc]
      simp only [Option.bind_some] at h ⊢
      cases hs : am_res (am_rt mj) q.1 rest with
      | none => rw [hs] at h; exact absurd h (by simp)
      | some st2 =>
        rw [hs] at h
        exact h1 _ _ _ _ _ _ h
  · exact h
theorem am_ent_mono {rec rec' : Nat → Nat → am_Ls → List Value → am_Mem → am_R} (h1 : ∀ mi pc ls st M r, rec mi pc ls st M = some r → rec' mi pc ls st M = some r) (mj : Nat) (as : List Value) (M : am_Mem) (r) (h : am_ent mj as M rec = some r) : am_ent mj as M rec' = some r := by
  unfold am_ent at h ⊢
  cases hb : Nat.ble (am_w as) (am_ml mj) with
  | true => rw [hb] at h; exact h1 _ _ _ _ _ _ h
  | false => rw [hb] at h; exact absurd h (by simp)
theorem am_ev_succ (n : Nat) : ∀ (d mi pc : Nat) (ls : am_Ls) (st : List Value) (M : am_Mem) (r), am_ev n d mi pc ls st M = some r → am_ev (n + 1) d mi pc ls st M = some r := by
  induction n with
  | zero => intro d mi pc ls st M r h; exact absurd h (by simp [am_ev])
  | succ n ih =>
    intro d mi pc ls st M r h
    rw [am_ev_S] at h ⊢
    refine am_F_mono (ih d) (fun mj as M r h => ?_) mi pc ls st M r h
    cases d with
    | zero => exact h
    | succ d => exact am_ent_mono (ih d) mj as M r h
theorem am_ev_le {n m d mi pc : Nat} {ls : am_Ls} {st : List Value} {M : am_Mem} {r} (hnm : n ≤ m) (h : am_ev n d mi pc ls st M = some r) : am_ev m d mi pc ls st M = some r := by
  induction hnm with
  | refl => exact h
  | step _ ih => exact am_ev_succ _ _ _ _ _ _ _ _ ih
theorem am_ev_det {n m d mi pc : Nat} {ls : am_Ls} {st : List Value} {M : am_Mem} {r q} (h : am_ev n d mi pc ls st M = some r) (h2 : am_ev m d mi pc ls st M = some q) : r = q := by
  have a := am_ev_le (Nat.le_max_left n m) h
  have b := am_ev_le (Nat.le_max_right n m) h2
  exact Option.some.inj (a.symm.trans b)
noncomputable def am_E (d mi pc : Nat) (ls : am_Ls) (st : List Value) (M : am_Mem) : am_R := by
  classical exact if h : ∃ n r, am_ev n d mi pc ls st M = some r then some (Classical.choose (Classical.choose_spec h)) else none
theorem am_E_iff {d mi pc : Nat} {ls : am_Ls} {st : List Value} {M : am_Mem} {r} : am_E d mi pc ls st M = some r ↔ ∃ n, am_ev n d mi pc ls st M = some r := by
  unfold am_E
  constructor
  · intro h
    split at h
    · rename_i hx
      have h2 := Classical.choose_spec (Classical.choose_spec hx)
      rw [Option.some.inj h] at h2
      exact ⟨_, h2⟩
    · cases h
  · rintro ⟨n, h⟩
    have hx : ∃ n r, am_ev n d mi pc ls st M = some r := ⟨n, r, h⟩
    rw [dif_pos hx]
    exact congrArg some (am_ev_det (Classical.choose_spec (Classical.choose_spec hx)) h)
theorem am_E_up {n d mi pc : Nat} {ls : am_Ls} {st : List Value} {M : am_Mem} {r} (h : am_ev n d mi pc ls st M = some r) : am_E d mi pc ls st M = some r := am_E_iff.mpr ⟨n, h⟩
theorem am_ext {a b : am_R} (h : ∀ r, a = some r ↔ b = some r) : a = b := by
  cases a with
  | none =>
    cases b with
    | none => rfl
    | some q => exact (h q).mpr rfl
  | some q => exact ((h q).mp rfl).symm
/-- what a call does, by how deep it may still go -/
noncomputable def am_C (d : Nat) (mj : Nat) (as : List Value) (M : am_Mem) : am_R := match d with
  | 0 => none
  | d + 1 => am_ent mj as M (am_E d)
theorem am_C_of {k d mj : Nat} {as : List Value} {M : am_Mem} {r} (h : am_K k d mj as M = some r) : am_C d mj as M = some r := by
  cases d with
  | zero => exact h
  | succ d => exact am_ent_mono (fun _ _ _ _ _ _ h => am_E_up h) mj as M r h
theorem am_C_to {d mj : Nat} {as : List Value} {M : am_Mem} {r} (h : am_C d mj as M = some r) : ∃ k, am_K k d mj as M = some r := by
  cases d with
  | zero => exact absurd h (by simp [am_C])
  | succ d =>
    have h2 : am_ent mj as M (am_E d) = some r := h
    show ∃ k, am_ent mj as M (am_ev k d) = some r
    unfold am_ent at h2 ⊢
    cases hb : Nat.ble (am_w as) (am_ml mj) with
    | true => rw [hb] at h2; exact am_E_iff.mp h2
    | false => rw [hb] at h2; exact absurd h2 (by simp)
theorem am_K_le {n m d mj : Nat} {as : List Value} {M : am_Mem} {r} (hnm : n ≤ m) (h : am_K n d mj as M = some r) : am_K m d mj as M = some r := by
  cases d with
  | zero => exact h
  | succ d => exact am_ent_mono (fun _ _ _ _ _ _ h => am_ev_le hnm h) mj as M r h
theorem am_E_unf (d mi pc : Nat) (ls : am_Ls) (st : List Value) (M : am_Mem) : am_E d mi pc ls st M = am_F (am_E d) (am_C d) mi pc ls st M := by
  apply am_ext
  intro r
  constructor
  · intro h
    obtain ⟨n, h⟩ := am_E_iff.mp h
    cases n with
    | zero => exact absurd h (by simp [am_ev])
    | succ n =>
      rw [am_ev_S] at h
      exact am_F_mono (fun _ _ _ _ _ _ h => am_E_up h) (fun _ _ _ _ h => am_C_of h) _ _ _ _ _ _ h
  · intro h
    apply am_E_iff.mpr
    suffices hs : ∃ k, am_F (am_ev k d) (am_K k d) mi pc ls st M = some r by
      obtain ⟨k, hk⟩ := hs
      exact ⟨k + 1, by rw [am_ev_S]; exact hk⟩
    unfold am_F at h ⊢
    generalize am_stp mi pc ls st M = o at h ⊢
    rcases o with _ | ⟨⟨pc1, ls1, st1, M1⟩ | ⟨⟨mj, as, pc1, ls1, rest, M1⟩ | v⟩⟩
    · exact ⟨0, h⟩
    · exact am_E_iff.mp h
    · dsimp only [am_Fo] at h ⊢
      cases hc : am_C d mj as M1 with
      | none => rw [hc] at h; exact absurd h (by simp)
      | some q =>
        rw [hc] at h
        simp only [Option.bind_some] at h
        cases hs : am_res (am_rt mj) q.1 rest with
        | none => rw [hs] at h; exact absurd h (by simp)
        | some st2 =>
          rw [hs] at h
          simp only [Option.bind_some] at h
          obtain ⟨k1, hk1⟩ := am_E_iff.mp h
          obtain ⟨k2, hk2⟩ := am_C_to hc
          refine ⟨max k1 k2, ?_⟩
          rw [am_K_le (Nat.le_max_right k1 k2) hk2]
          simp only [Option.bind_some, hs]
          exact am_ev_le (Nat.le_max_left k1 k2) hk1
    · exact ⟨0, h⟩
/-! ===== one step ===== -/
theorem am_E_go {d mi pc : Nat} {ls : am_Ls} {st : List Value} {M : am_Mem} {pc' : Nat} {ls' : am_Ls} {st' : List Value} {M' : am_Mem} (h : am_stp mi pc ls st M = some (.inl (pc', ls', st', M'))) : am_E d mi pc ls st M = am_E d mi pc' (am_nm mi pc' ls') st' M' := by
  rw [am_E_unf]; unfold am_F; rw [h]; rfl
theorem am_E_if {d mi pc : Nat} {ls : am_Ls} {st : List Value} {M : am_Mem} {b : Bool} {pc' : Nat} {ls' : am_Ls} {st' : List Value} {M' : am_Mem} (h : am_stp mi pc ls st M = am_if b (some (.inl (pc', ls', st', M')))) : am_E d mi pc ls st M = bif b then am_E d mi pc' (am_nm mi pc' ls') st' M' else none := by
  cases b with
  | true => exact am_E_go h
  | false => rw [am_E_unf]; unfold am_F; rw [h]; rfl
theorem am_E_br {d mi : Nat} {b : Bool} {p1 p2 : Nat} {ls : am_Ls} {st : List Value} {M : am_Mem} : am_E d mi (bif b then p1 else p2) (am_nm mi (bif b then p1 else p2) ls) st M = bif b then am_E d mi p1 (am_nm mi p1 ls) st M else am_E d mi p2 (am_nm mi p2 ls) st M := by
  cases b <;> rfl
theorem am_E_ret {d mi pc : Nat} {ls : am_Ls} {st : List Value} {M : am_Mem} {v : Option Value} (h : am_stp mi pc ls st M = some (.inr (.inr v))) : am_E d mi pc ls st M = some (v, M) := by
  rw [am_E_unf]; unfold am_F; rw [h]; rfl
theorem am_E_retz {d mi pc : Nat} {ls : am_Ls} {st : List Value} {M : am_Mem} {b : Bool} {v : Option Value} (h : am_stp mi pc ls st M = am_if b (some (.inr (.inr v)))) : am_E d mi pc ls st M = bif b then some (v, M) else none := by
  cases b with
  | true => exact am_E_ret h
  | false => rw [am_E_unf]; unfold am_F; rw [h]; rfl
/-- behind a call that answers an int, a long, nothing -/
def am_bI (o : am_R) (k : Int32 → am_Mem → am_R) : am_R := match o with
  | some (some (.int v), M) => k v M
  | _ => none
def am_bL (o : am_R) (k : Int64 → am_Mem → am_R) : am_R := match o with
  | some (some (.long v), M) => k v M
  | _ => none
def am_bV (o : am_R) (k : am_Mem → am_R) : am_R := match o with
  | some (none, M) => k M
  | _ => none
theorem am_E_cI {d mi pc : Nat} {ls : am_Ls} {st : List Value} {M : am_Mem} {mj : Nat} {as : List Value} {pc' : Nat} {ls' : am_Ls} {rest : List Value} {M' : am_Mem} {b : Bool} (h : am_stp mi pc ls st M = am_if b (some (.inr (.inl (mj, as, pc', ls', rest, M'))))) (hr : am_rt mj = some .int ∨ am_rt mj = some .boolean) (hw : Nat.ble (am_w as) (am_ml mj) = true) :
    am_E (d + 1) mi pc ls st M = bif b then am_bI (am_E d mj 0 (lv_args 0 as) [] M') (fun v M1 => am_E (d + 1) mi pc' (am_nm mi pc' ls') (.int v :: rest) M1) else none := by
  rw [am_E_unf]; unfold am_F; rw [h]
  cases b with
  | false => rfl
  | true =>
    show ((am_C (d + 1) mj as M').bind _) = am_bI _ _
    have e : am_C (d + 1) mj as M' = am_E d mj 0 (lv_args 0 as) [] M' := by unfold am_C am_ent; rw [hw]; rfl
    rw [e]
    rcases am_E d mj 0 (lv_args 0 as) [] M' with _ | ⟨_ | v, M1⟩
    · rfl
    · rcases hr with hr | hr <;> simp [am_bI, am_res, hr]
    · rcases hr with hr | hr <;> cases v <;> simp [am_bI, am_res, hr]
theorem am_E_cL {d mi pc : Nat} {ls : am_Ls} {st : List Value} {M : am_Mem} {mj : Nat} {as : List Value} {pc' : Nat} {ls' : am_Ls} {rest : List Value} {M' : am_Mem} {b : Bool} (h : am_stp mi pc ls st M = am_if b (some (.inr (.inl (mj, as, pc', ls', rest, M'))))) (hr : am_rt mj = some .long) (hw : Nat.ble (am_w as) (am_ml mj) = true) :
    am_E (d + 1) mi pc ls st M = bif b then am_bL (am_E d mj 0 (lv_args 0 as) [] M') (fun v M1 => am_E (d + 1) mi pc' (am_nm mi pc' ls') (.long v :: rest) M1) else none := by
  rw [am_E_unf]; unfold am_F; rw [h]
  cases b with
  | false => rfl
  | true =>
    show ((am_C (d + 1) mj as M').bind _) = am_bL _ _
    have e : am_C (d + 1) mj as M' = am_E d mj 0 (lv_args 0 as) [] M' := by unfold am_C am_ent; rw [hw]; rfl
    rw [e]
    rcases am_E d mj 0 (lv_args 0 as) [] M' with _ | ⟨_ | v, M1⟩
    · rfl
    · simp [am_bL, am_res, hr]
    · cases v <;> simp [am_bL, am_res, hr]
theorem am_E_cV {d mi pc : Nat} {ls : am_Ls} {st : List Value} {M : am_Mem} {mj : Nat} {as : List Value} {pc' : Nat} {ls' : am_Ls} {rest : List Value} {M' : am_Mem} {b : Bool} (h : am_stp mi pc ls st M = am_if b (some (.inr (.inl (mj, as, pc', ls', rest, M'))))) (hr : am_rt mj = none) (hw : Nat.ble (am_w as) (am_ml mj) = true) :
    am_E (d + 1) mi pc ls st M = bif b then am_bV (am_E d mj 0 (lv_args 0 as) [] M') (fun M1 => am_E (d + 1) mi pc' (am_nm mi pc' ls') rest M1) else none := by
  rw [am_E_unf]; unfold am_F; rw [h]
  cases b with
  | false => rfl
  | true =>
    show ((am_C (d + 1) mj as M').bind _) = am_bV _ _
    have e : am_C (d + 1) mj as M' = am_E d mj 0 (lv_args 0 as) [] M' := by unfold am_C am_ent; rw [hw]; rfl
    rw [e]
    rcases am_E d mj 0 (lv_args 0 as) [] M' with _ | ⟨_ | v, M1⟩
    · rfl
    · simp [am_bV, am_res, hr]
    · cases v <;> simp [am_bV, am_res, hr]
