/-! ===== one instruction of the abstract machine, on the machine ===== -/
def am_WW (b t z L : Nat) (xs : Nat → Int32) (D : va_G) (dA : Nat → ClassId) (mi : Nat) (p : Program) (l : Launch) (e : Env) (R : Room) (s : State) (m : MethodId) (args : Array Value) (below : List Frame) (meth : Method) (c : Code) (Q : State → Prop) (kc ks : Nat) (pc : Nat) (ls : am_Ls) (st : List Value) (M : am_Mem) : Prop :=
  ∀ (lsC : Array Slot) (H : Heap) (locs : List Loc) (cells slots : Nat), am_Rp b t z L xs D dA M H → va_S (am_A z) s.heap H locs → lv_has lsC (am_ml mi) (am_cm b t z ls) → cells + kc = M.2.2.2 → slots + ks = am_sl M.2.2.2 → W p l e R s m args below meth c H locs cells slots Q (F0 m pc lsC (st.map (am_cv b t z)))
section AMS
variable {b t z L : Nat} {xs : Nat → Int32} {D : va_G} {dA : Nat → ClassId} {X : State → Prop} {mi d : Nat} {p : Program} {l : Launch} {e : Env} {R : Room} {s : State} {m : MethodId} {args : Array Value} {below : List Frame} {meth : Method} {c : Code} {Q : State → Prop} {kc ks : Nat}
variable {pc : Nat} {ls : am_Ls} {st : List Value} {M : am_Mem} {pc' : Nat} {ls' : am_Ls} {st' : List Value} {M' : am_Mem} {x y : Nat}
theorem am_i_eq (v : Int) : am_i v = Int32.ofInt v := rfl
theorem am_b8 : ∀ v : Int, -128 ≤ v → v < 128 → (Int8.ofInt v).toInt32 = am_i v := by
  intro v h1 h2
  apply Int32.toInt_inj.mp
  rw [am_i_eq, Int8.toInt_toInt32, Int8.toInt_ofInt, Int32.toInt_ofInt]
  simp only [Int8.size, Int32.size]
  rw [Int.bmod_eq_of_le (by omega) (by omega), Int.bmod_eq_of_le (by omega) (by omega)]
theorem am_b16 : ∀ v : Int, -32768 ≤ v → v < 32768 → (Int16.ofInt v).toInt32 = am_i v := by
  intro v h1 h2
  apply Int32.toInt_inj.mp
  rw [am_i_eq, Int16.toInt_toInt32, Int16.toInt_ofInt, Int32.toInt_ofInt]
  simp only [Int16.size, Int32.size]
  rw [Int.bmod_eq_of_le (by omega) (by omega), Int.bmod_eq_of_le (by omega) (by omega)]
theorem am_fw_ok {pc : Nat} {o : Int} (h : am_fw pc o = true) : (pc : Int) + o = ((am_jmp pc o : Nat) : Int) := by
  have h2 : 0 ≤ (pc : Int) + o := of_decide_eq_true h
  unfold am_jmp
  omega

theorem am_w_iconst (C : am_Cx b t z L xs D dA X mi d kc R p s m args meth c) {v : Int} (hd : decode (am_mr mi).2.1 pc = .ok (.iconst v, 1))  (h : am_do (.iconst v) 1 x y mi pc ls st M = some (.inl (pc', ls', st', M'))) (k : am_WW b t z L xs D dA mi p l e R s m args below meth c Q kc ks pc' ls' st' M') : am_WW b t z L xs D dA mi p l e R s m args below meth c Q kc ks pc ls st M := by
  obtain ⟨hx, hb, hml, hown, hts, hSt, hr, hlk, hin, hfr, hlo, hz, hk3⟩ := C
  cases h
  intro lsC H locs cells slots hP hS hl hc hs
  exact lv_iconst hx hb hd rfl (k lsC H locs cells slots hP hS hl hc hs)

theorem am_w_bipush (C : am_Cx b t z L xs D dA X mi d kc R p s m args meth c) {v : Int} (hd : decode (am_mr mi).2.1 pc = .ok (.bipush v, 2)) (h1 : -128 ≤ v) (h2 : v < 128) (h : am_do (.bipush v) 2 x y mi pc ls st M = some (.inl (pc', ls', st', M'))) (k : am_WW b t z L xs D dA mi p l e R s m args below meth c Q kc ks pc' ls' st' M') : am_WW b t z L xs D dA mi p l e R s m args below meth c Q kc ks pc ls st M := by
  obtain ⟨hx, hb, hml, hown, hts, hSt, hr, hlk, hin, hfr, hlo, hz, hk3⟩ := C
  cases h
  intro lsC H locs cells slots hP hS hl hc hs
  exact lv_bipush hx hb hd (am_b8 v h1 h2) (k lsC H locs cells slots hP hS hl hc hs)

theorem am_w_sipush (C : am_Cx b t z L xs D dA X mi d kc R p s m args meth c) {v : Int} (hd : decode (am_mr mi).2.1 pc = .ok (.sipush v, 3)) (h1 : -32768 ≤ v) (h2 : v < 32768) (h : am_do (.sipush v) 3 x y mi pc ls st M = some (.inl (pc', ls', st', M'))) (k : am_WW b t z L xs D dA mi p l e R s m args below meth c Q kc ks pc' ls' st' M') : am_WW b t z L xs D dA mi p l e R s m args below meth c Q kc ks pc ls st M := by
  obtain ⟨hx, hb, hml, hown, hts, hSt, hr, hlk, hin, hfr, hlo, hz, hk3⟩ := C
  cases h
  intro lsC H locs cells slots hP hS hl hc hs
  exact lv_sipush hx hb hd (am_b16 v h1 h2) (k lsC H locs cells slots hP hS hl hc hs)

theorem am_w_lconst (C : am_Cx b t z L xs D dA X mi d kc R p s m args meth c) {v : Fin 2} (hd : decode (am_mr mi).2.1 pc = .ok (.lconst v, 1))  (h : am_do (.lconst v) 1 x y mi pc ls st M = some (.inl (pc', ls', st', M'))) (k : am_WW b t z L xs D dA mi p l e R s m args below meth c Q kc ks pc' ls' st' M') : am_WW b t z L xs D dA mi p l e R s m args below meth c Q kc ks pc ls st M := by
  obtain ⟨hx, hb, hml, hown, hts, hSt, hr, hlk, hin, hfr, hlo, hz, hk3⟩ := C
  cases h
  intro lsC H locs cells slots hP hS hl hc hs
  exact lv_lconst hx hb hd (by match v with | 0 => rfl | 1 => rfl) (k lsC H locs cells slots hP hS hl hc hs)

theorem am_w_iload (C : am_Cx b t z L xs D dA X mi d kc R p s m args meth c) {j : Nat} (hd : decode (am_mr mi).2.1 pc = .ok (.iload j, 2))  (h : am_do (.iload j) 2 x y mi pc ls st M = some (.inl (pc', ls', st', M'))) (k : am_WW b t z L xs D dA mi p l e R s m args below meth c Q kc ks pc' ls' st' M') : am_WW b t z L xs D dA mi p l e R s m args below meth c Q kc ks pc ls st M := by
  obtain ⟨hx, hb, hml, hown, hts, hSt, hr, hlk, hin, hfr, hlo, hz, hk3⟩ := C
  simp only [am_do, am_ld] at h
  split at h
  · rename_i v hf
    change am_go _ _ _ _ = _ at h
    cases h
    intro lsC H locs cells slots hP hS hl hc hs
    exact lv_iload hx hb hd (am_loc hl hf) (k lsC H locs cells slots hP hS hl hc hs)
  · exact nomatch (show (none : Option am_S) = some _ from h)
  · exact nomatch (show (none : Option am_S) = some _ from h)
  · exact nomatch (show (none : Option am_S) = some _ from h)

theorem am_w_istore (C : am_Cx b t z L xs D dA X mi d kc R p s m args meth c) {j : Nat} (hd : decode (am_mr mi).2.1 pc = .ok (.istore j, 2))  (h : am_do (.istore j) 2 x y mi pc ls st M = some (.inl (pc', ls', st', M'))) (k : am_WW b t z L xs D dA mi p l e R s m args below meth c Q kc ks pc' ls' st' M') : am_WW b t z L xs D dA mi p l e R s m args below meth c Q kc ks pc ls st M := by
  obtain ⟨hx, hb, hml, hown, hts, hSt, hr, hlk, hin, hfr, hlo, hz, hk3⟩ := C
  simp only [am_do, am_sv] at h
  split at h
  · rename_i v st1
    cases hk : Nat.blt j (am_ml mi) with
    | false => rw [hk] at h; exact nomatch (show (none : Option am_S) = some _ from h)
    | true =>
      rw [hk] at h
      change am_go _ _ _ _ = _ at h
      cases h
      have hk2 := Nat.blt_eq.mp hk
      intro lsC H locs cells slots hP hS hl hc hs
      exact lv_istore hx hb hd hl hk2 (am_cm_st1 b t z ls j (.int v)).symm (fun ls2 hl2 => k ls2 H locs cells slots hP hS hl2 hc hs)
  · exact nomatch (show (none : Option am_S) = some _ from h)
  · exact nomatch (show (none : Option am_S) = some _ from h)
  · exact nomatch (show (none : Option am_S) = some _ from h)

theorem am_w_iload_n (C : am_Cx b t z L xs D dA X mi d kc R p s m args meth c) {j : Fin 4} (hd : decode (am_mr mi).2.1 pc = .ok (.iload_n j, 1))  (h : am_do (.iload_n j) 1 x y mi pc ls st M = some (.inl (pc', ls', st', M'))) (k : am_WW b t z L xs D dA mi p l e R s m args below meth c Q kc ks pc' ls' st' M') : am_WW b t z L xs D dA mi p l e R s m args below meth c Q kc ks pc ls st M := by
  obtain ⟨hx, hb, hml, hown, hts, hSt, hr, hlk, hin, hfr, hlo, hz, hk3⟩ := C
  simp only [am_do, am_ld] at h
  split at h
  · rename_i v hf
    change am_go _ _ _ _ = _ at h
    cases h
    intro lsC H locs cells slots hP hS hl hc hs
    exact lv_iload_n hx hb hd rfl (am_loc hl hf) (k lsC H locs cells slots hP hS hl hc hs)
  · exact nomatch (show (none : Option am_S) = some _ from h)
  · exact nomatch (show (none : Option am_S) = some _ from h)
  · exact nomatch (show (none : Option am_S) = some _ from h)

theorem am_w_istore_n (C : am_Cx b t z L xs D dA X mi d kc R p s m args meth c) {j : Fin 4} (hd : decode (am_mr mi).2.1 pc = .ok (.istore_n j, 1))  (h : am_do (.istore_n j) 1 x y mi pc ls st M = some (.inl (pc', ls', st', M'))) (k : am_WW b t z L xs D dA mi p l e R s m args below meth c Q kc ks pc' ls' st' M') : am_WW b t z L xs D dA mi p l e R s m args below meth c Q kc ks pc ls st M := by
  obtain ⟨hx, hb, hml, hown, hts, hSt, hr, hlk, hin, hfr, hlo, hz, hk3⟩ := C
  simp only [am_do, am_sv] at h
  split at h
  · rename_i v st1
    cases hk : Nat.blt (j : Nat) (am_ml mi) with
    | false => rw [hk] at h; exact nomatch (show (none : Option am_S) = some _ from h)
    | true =>
      rw [hk] at h
      change am_go _ _ _ _ = _ at h
      cases h
      have hk2 := Nat.blt_eq.mp hk
      intro lsC H locs cells slots hP hS hl hc hs
      exact lv_istore_n hx hb hd rfl hl hk2 (am_cm_st1 b t z ls (j : Nat) (.int v)).symm (fun ls2 hl2 => k ls2 H locs cells slots hP hS hl2 hc hs)
  · exact nomatch (show (none : Option am_S) = some _ from h)
  · exact nomatch (show (none : Option am_S) = some _ from h)
  · exact nomatch (show (none : Option am_S) = some _ from h)

theorem am_w_lload (C : am_Cx b t z L xs D dA X mi d kc R p s m args meth c) {j : Nat} (hd : decode (am_mr mi).2.1 pc = .ok (.lload j, 2))  (h : am_do (.lload j) 2 x y mi pc ls st M = some (.inl (pc', ls', st', M'))) (k : am_WW b t z L xs D dA mi p l e R s m args below meth c Q kc ks pc' ls' st' M') : am_WW b t z L xs D dA mi p l e R s m args below meth c Q kc ks pc ls st M := by
  obtain ⟨hx, hb, hml, hown, hts, hSt, hr, hlk, hin, hfr, hlo, hz, hk3⟩ := C
  simp only [am_do, am_ld] at h
  split at h
  · exact nomatch (show (none : Option am_S) = some _ from h)
  · rename_i v hf
    change am_go _ _ _ _ = _ at h
    cases h
    intro lsC H locs cells slots hP hS hl hc hs
    exact lv_lload hx hb hd (am_loc hl hf) (k lsC H locs cells slots hP hS hl hc hs)
  · exact nomatch (show (none : Option am_S) = some _ from h)
  · exact nomatch (show (none : Option am_S) = some _ from h)

theorem am_w_lstore (C : am_Cx b t z L xs D dA X mi d kc R p s m args meth c) {j : Nat} (hd : decode (am_mr mi).2.1 pc = .ok (.lstore j, 2))  (h : am_do (.lstore j) 2 x y mi pc ls st M = some (.inl (pc', ls', st', M'))) (k : am_WW b t z L xs D dA mi p l e R s m args below meth c Q kc ks pc' ls' st' M') : am_WW b t z L xs D dA mi p l e R s m args below meth c Q kc ks pc ls st M := by
  obtain ⟨hx, hb, hml, hown, hts, hSt, hr, hlk, hin, hfr, hlo, hz, hk3⟩ := C
  simp only [am_do, am_sv] at h
  split at h
  · exact nomatch (show (none : Option am_S) = some _ from h)
  · rename_i v st1
    cases hk : Nat.blt (j + 1) (am_ml mi) with
    | false => rw [hk] at h; exact nomatch (show (none : Option am_S) = some _ from h)
    | true =>
      rw [hk] at h
      change am_go _ _ _ _ = _ at h
      cases h
      have hk2 := Nat.blt_eq.mp hk
      intro lsC H locs cells slots hP hS hl hc hs
      exact lv_lstore hx hb hd hl hk2 (am_cm_st2 b t z ls j (.long v)).symm (fun ls2 hl2 => k ls2 H locs cells slots hP hS hl2 hc hs)
  · exact nomatch (show (none : Option am_S) = some _ from h)
  · exact nomatch (show (none : Option am_S) = some _ from h)

theorem am_w_lload_n (C : am_Cx b t z L xs D dA X mi d kc R p s m args meth c) {j : Fin 4} (hd : decode (am_mr mi).2.1 pc = .ok (.lload_n j, 1))  (h : am_do (.lload_n j) 1 x y mi pc ls st M = some (.inl (pc', ls', st', M'))) (k : am_WW b t z L xs D dA mi p l e R s m args below meth c Q kc ks pc' ls' st' M') : am_WW b t z L xs D dA mi p l e R s m args below meth c Q kc ks pc ls st M := by
  obtain ⟨hx, hb, hml, hown, hts, hSt, hr, hlk, hin, hfr, hlo, hz, hk3⟩ := C
  simp only [am_do, am_ld] at h
  split at h
  · exact nomatch (show (none : Option am_S) = some _ from h)
  · rename_i v hf
    change am_go _ _ _ _ = _ at h
    cases h
    intro lsC H locs cells slots hP hS hl hc hs
    exact lv_lload_n hx hb hd rfl (am_loc hl hf) (k lsC H locs cells slots hP hS hl hc hs)
  · exact nomatch (show (none : Option am_S) = some _ from h)
  · exact nomatch (show (none : Option am_S) = some _ from h)

theorem am_w_lstore_n (C : am_Cx b t z L xs D dA X mi d kc R p s m args meth c) {j : Fin 4} (hd : decode (am_mr mi).2.1 pc = .ok (.lstore_n j, 1))  (h : am_do (.lstore_n j) 1 x y mi pc ls st M = some (.inl (pc', ls', st', M'))) (k : am_WW b t z L xs D dA mi p l e R s m args below meth c Q kc ks pc' ls' st' M') : am_WW b t z L xs D dA mi p l e R s m args below meth c Q kc ks pc ls st M := by
  obtain ⟨hx, hb, hml, hown, hts, hSt, hr, hlk, hin, hfr, hlo, hz, hk3⟩ := C
  simp only [am_do, am_sv] at h
  split at h
  · exact nomatch (show (none : Option am_S) = some _ from h)
  · rename_i v st1
    cases hk : Nat.blt ((j : Nat) + 1) (am_ml mi) with
    | false => rw [hk] at h; exact nomatch (show (none : Option am_S) = some _ from h)
    | true =>
      rw [hk] at h
      change am_go _ _ _ _ = _ at h
      cases h
      have hk2 := Nat.blt_eq.mp hk
      intro lsC H locs cells slots hP hS hl hc hs
      exact lv_lstore_n hx hb hd rfl hl hk2 (am_cm_st2 b t z ls (j : Nat) (.long v)).symm (fun ls2 hl2 => k ls2 H locs cells slots hP hS hl2 hc hs)
  · exact nomatch (show (none : Option am_S) = some _ from h)
  · exact nomatch (show (none : Option am_S) = some _ from h)

theorem am_w_aload (C : am_Cx b t z L xs D dA X mi d kc R p s m args meth c) {j : Nat} (hd : decode (am_mr mi).2.1 pc = .ok (.aload j, 2))  (h : am_do (.aload j) 2 x y mi pc ls st M = some (.inl (pc', ls', st', M'))) (k : am_WW b t z L xs D dA mi p l e R s m args below meth c Q kc ks pc' ls' st' M') : am_WW b t z L xs D dA mi p l e R s m args below meth c Q kc ks pc ls st M := by
  obtain ⟨hx, hb, hml, hown, hts, hSt, hr, hlk, hin, hfr, hlo, hz, hk3⟩ := C
  simp only [am_do, am_ld] at h
  split at h
  · exact nomatch (show (none : Option am_S) = some _ from h)
  · exact nomatch (show (none : Option am_S) = some _ from h)
  · rename_i v hf
    change am_go _ _ _ _ = _ at h
    cases h
    intro lsC H locs cells slots hP hS hl hc hs
    cases v with
    | zero => exact lv_aloadN hx hb hd (am_loc hl hf) (k lsC H locs cells slots hP hS hl hc hs)
    | succ v => exact lv_aload hx hb hd (am_loc hl hf) (k lsC H locs cells slots hP hS hl hc hs)
  · exact nomatch (show (none : Option am_S) = some _ from h)

theorem am_w_astore (C : am_Cx b t z L xs D dA X mi d kc R p s m args meth c) {j : Nat} (hd : decode (am_mr mi).2.1 pc = .ok (.astore j, 2))  (h : am_do (.astore j) 2 x y mi pc ls st M = some (.inl (pc', ls', st', M'))) (k : am_WW b t z L xs D dA mi p l e R s m args below meth c Q kc ks pc' ls' st' M') : am_WW b t z L xs D dA mi p l e R s m args below meth c Q kc ks pc ls st M := by
  obtain ⟨hx, hb, hml, hown, hts, hSt, hr, hlk, hin, hfr, hlo, hz, hk3⟩ := C
  simp only [am_do, am_sv] at h
  split at h
  · exact nomatch (show (none : Option am_S) = some _ from h)
  · exact nomatch (show (none : Option am_S) = some _ from h)
  · rename_i v st1
    cases hk : Nat.blt j (am_ml mi) with
    | false => rw [hk] at h; exact nomatch (show (none : Option am_S) = some _ from h)
    | true =>
      rw [hk] at h
      change am_go _ _ _ _ = _ at h
      cases h
      have hk2 := Nat.blt_eq.mp hk
      intro lsC H locs cells slots hP hS hl hc hs
      cases v with
      | zero => exact lv_astoreN hx hb hd hl hk2 (am_cm_st1 b t z ls j (.ref 0)).symm (fun ls2 hl2 => k ls2 H locs cells slots hP hS hl2 hc hs)
      | succ v => exact lv_astore hx hb hd hl hk2 (am_cm_st1 b t z ls j (.ref (v + 1))).symm (fun ls2 hl2 => k ls2 H locs cells slots hP hS hl2 hc hs)
  · exact nomatch (show (none : Option am_S) = some _ from h)

theorem am_w_aload_n (C : am_Cx b t z L xs D dA X mi d kc R p s m args meth c) {j : Fin 4} (hd : decode (am_mr mi).2.1 pc = .ok (.aload_n j, 1))  (h : am_do (.aload_n j) 1 x y mi pc ls st M = some (.inl (pc', ls', st', M'))) (k : am_WW b t z L xs D dA mi p l e R s m args below meth c Q kc ks pc' ls' st' M') : am_WW b t z L xs D dA mi p l e R s m args below meth c Q kc ks pc ls st M := by
  obtain ⟨hx, hb, hml, hown, hts, hSt, hr, hlk, hin, hfr, hlo, hz, hk3⟩ := C
  simp only [am_do, am_ld] at h
  split at h
  · exact nomatch (show (none : Option am_S) = some _ from h)
  · exact nomatch (show (none : Option am_S) = some _ from h)
  · rename_i v hf
    change am_go _ _ _ _ = _ at h
    cases h
    intro lsC H locs cells slots hP hS hl hc hs
    cases v with
    | zero => exact lv_aload_nN hx hb hd rfl (am_loc hl hf) (k lsC H locs cells slots hP hS hl hc hs)
    | succ v => exact lv_aload_n hx hb hd rfl (am_loc hl hf) (k lsC H locs cells slots hP hS hl hc hs)
  · exact nomatch (show (none : Option am_S) = some _ from h)

theorem am_w_astore_n (C : am_Cx b t z L xs D dA X mi d kc R p s m args meth c) {j : Fin 4} (hd : decode (am_mr mi).2.1 pc = .ok (.astore_n j, 1))  (h : am_do (.astore_n j) 1 x y mi pc ls st M = some (.inl (pc', ls', st', M'))) (k : am_WW b t z L xs D dA mi p l e R s m args below meth c Q kc ks pc' ls' st' M') : am_WW b t z L xs D dA mi p l e R s m args below meth c Q kc ks pc ls st M := by
  obtain ⟨hx, hb, hml, hown, hts, hSt, hr, hlk, hin, hfr, hlo, hz, hk3⟩ := C
  simp only [am_do, am_sv] at h
  split at h
  · exact nomatch (show (none : Option am_S) = some _ from h)
  · exact nomatch (show (none : Option am_S) = some _ from h)
  · rename_i v st1
    cases hk : Nat.blt (j : Nat) (am_ml mi) with
    | false => rw [hk] at h; exact nomatch (show (none : Option am_S) = some _ from h)
    | true =>
      rw [hk] at h
      change am_go _ _ _ _ = _ at h
      cases h
      have hk2 := Nat.blt_eq.mp hk
      intro lsC H locs cells slots hP hS hl hc hs
      cases v with
      | zero => exact lv_astore_nN hx hb hd rfl hl hk2 (am_cm_st1 b t z ls (j : Nat) (.ref 0)).symm (fun ls2 hl2 => k ls2 H locs cells slots hP hS hl2 hc hs)
      | succ v => exact lv_astore_n hx hb hd rfl hl hk2 (am_cm_st1 b t z ls (j : Nat) (.ref (v + 1))).symm (fun ls2 hl2 => k ls2 H locs cells slots hP hS hl2 hc hs)
  · exact nomatch (show (none : Option am_S) = some _ from h)

theorem am_w_iinc (C : am_Cx b t z L xs D dA X mi d kc R p s m args meth c) {j : Nat} {v : Int} (hd : decode (am_mr mi).2.1 pc = .ok (.iinc j v, 3))  (h : am_do (.iinc j v) 3 x y mi pc ls st M = some (.inl (pc', ls', st', M'))) (k : am_WW b t z L xs D dA mi p l e R s m args below meth c Q kc ks pc' ls' st' M') : am_WW b t z L xs D dA mi p l e R s m args below meth c Q kc ks pc ls st M := by
  obtain ⟨hx, hb, hml, hown, hts, hSt, hr, hlk, hin, hfr, hlo, hz, hk3⟩ := C
  simp only [am_do] at h
  split at h
  · rename_i u hf
    cases hk : Nat.blt j (am_ml mi) with
    | false => rw [hk] at h; exact nomatch (show (none : Option am_S) = some _ from h)
    | true =>
      rw [hk] at h
      change am_go _ _ _ _ = _ at h
      cases h
      intro lsC H locs cells slots hP hS hl hc hs
      obtain ⟨i0, hi0⟩ := List.getElem?_of_mem (List.mem_map.mpr ⟨(j, .int u), am_find_mem ls j hf, rfl⟩ : (j, Value.int u) ∈ am_cm b t z ls)
      exact lv_iinc hx hb hd hl hi0 rfl (Nat.blt_eq.mp hk) (am_cm_st1 b t z ls j (.int (u + am_i v))).symm (fun ls2 hl2 => k ls2 H locs cells slots hP hS hl2 hc hs)
  · exact absurd h (by simp)

theorem am_w_iadd (C : am_Cx b t z L xs D dA X mi d kc R p s m args meth c)  (hd : decode (am_mr mi).2.1 pc = .ok (.iadd, 1))  (h : am_do (.iadd) 1 x y mi pc ls st M = some (.inl (pc', ls', st', M'))) (k : am_WW b t z L xs D dA mi p l e R s m args below meth c Q kc ks pc' ls' st' M') : am_WW b t z L xs D dA mi p l e R s m args below meth c Q kc ks pc ls st M := by
  obtain ⟨hx, hb, hml, hown, hts, hSt, hr, hlk, hin, hfr, hlo, hz, hk3⟩ := C
  simp only [am_do, am_i2] at h
  split at h
  · cases h
    intro lsC H locs cells slots hP hS hl hc hs
    exact lv_iadd hx hb hd (k lsC H locs cells slots hP hS hl hc hs)
  · cases h

theorem am_w_isub (C : am_Cx b t z L xs D dA X mi d kc R p s m args meth c)  (hd : decode (am_mr mi).2.1 pc = .ok (.isub, 1))  (h : am_do (.isub) 1 x y mi pc ls st M = some (.inl (pc', ls', st', M'))) (k : am_WW b t z L xs D dA mi p l e R s m args below meth c Q kc ks pc' ls' st' M') : am_WW b t z L xs D dA mi p l e R s m args below meth c Q kc ks pc ls st M := by
  obtain ⟨hx, hb, hml, hown, hts, hSt, hr, hlk, hin, hfr, hlo, hz, hk3⟩ := C
  simp only [am_do, am_i2] at h
  split at h
  · cases h
    intro lsC H locs cells slots hP hS hl hc hs
    exact lv_isub hx hb hd (k lsC H locs cells slots hP hS hl hc hs)
  · cases h

theorem am_w_imul (C : am_Cx b t z L xs D dA X mi d kc R p s m args meth c)  (hd : decode (am_mr mi).2.1 pc = .ok (.imul, 1))  (h : am_do (.imul) 1 x y mi pc ls st M = some (.inl (pc', ls', st', M'))) (k : am_WW b t z L xs D dA mi p l e R s m args below meth c Q kc ks pc' ls' st' M') : am_WW b t z L xs D dA mi p l e R s m args below meth c Q kc ks pc ls st M := by
  obtain ⟨hx, hb, hml, hown, hts, hSt, hr, hlk, hin, hfr, hlo, hz, hk3⟩ := C
  simp only [am_do, am_i2] at h
  split at h
  · cases h
    intro lsC H locs cells slots hP hS hl hc hs
    exact lv_imul hx hb hd (k lsC H locs cells slots hP hS hl hc hs)
  · cases h

theorem am_w_iand (C : am_Cx b t z L xs D dA X mi d kc R p s m args meth c)  (hd : decode (am_mr mi).2.1 pc = .ok (.iand, 1))  (h : am_do (.iand) 1 x y mi pc ls st M = some (.inl (pc', ls', st', M'))) (k : am_WW b t z L xs D dA mi p l e R s m args below meth c Q kc ks pc' ls' st' M') : am_WW b t z L xs D dA mi p l e R s m args below meth c Q kc ks pc ls st M := by
  obtain ⟨hx, hb, hml, hown, hts, hSt, hr, hlk, hin, hfr, hlo, hz, hk3⟩ := C
  simp only [am_do, am_i2] at h
  split at h
  · cases h
    intro lsC H locs cells slots hP hS hl hc hs
    exact lv_iand hx hb hd (k lsC H locs cells slots hP hS hl hc hs)
  · cases h

theorem am_w_ior (C : am_Cx b t z L xs D dA X mi d kc R p s m args meth c)  (hd : decode (am_mr mi).2.1 pc = .ok (.ior, 1))  (h : am_do (.ior) 1 x y mi pc ls st M = some (.inl (pc', ls', st', M'))) (k : am_WW b t z L xs D dA mi p l e R s m args below meth c Q kc ks pc' ls' st' M') : am_WW b t z L xs D dA mi p l e R s m args below meth c Q kc ks pc ls st M := by
  obtain ⟨hx, hb, hml, hown, hts, hSt, hr, hlk, hin, hfr, hlo, hz, hk3⟩ := C
  simp only [am_do, am_i2] at h
  split at h
  · cases h
    intro lsC H locs cells slots hP hS hl hc hs
    exact lv_ior hx hb hd (k lsC H locs cells slots hP hS hl hc hs)
  · cases h

theorem am_w_ixor (C : am_Cx b t z L xs D dA X mi d kc R p s m args meth c)  (hd : decode (am_mr mi).2.1 pc = .ok (.ixor, 1))  (h : am_do (.ixor) 1 x y mi pc ls st M = some (.inl (pc', ls', st', M'))) (k : am_WW b t z L xs D dA mi p l e R s m args below meth c Q kc ks pc' ls' st' M') : am_WW b t z L xs D dA mi p l e R s m args below meth c Q kc ks pc ls st M := by
  obtain ⟨hx, hb, hml, hown, hts, hSt, hr, hlk, hin, hfr, hlo, hz, hk3⟩ := C
  simp only [am_do, am_i2] at h
  split at h
  · cases h
    intro lsC H locs cells slots hP hS hl hc hs
    exact lv_ixor hx hb hd (k lsC H locs cells slots hP hS hl hc hs)
  · cases h

theorem am_w_ishl (C : am_Cx b t z L xs D dA X mi d kc R p s m args meth c)  (hd : decode (am_mr mi).2.1 pc = .ok (.ishl, 1))  (h : am_do (.ishl) 1 x y mi pc ls st M = some (.inl (pc', ls', st', M'))) (k : am_WW b t z L xs D dA mi p l e R s m args below meth c Q kc ks pc' ls' st' M') : am_WW b t z L xs D dA mi p l e R s m args below meth c Q kc ks pc ls st M := by
  obtain ⟨hx, hb, hml, hown, hts, hSt, hr, hlk, hin, hfr, hlo, hz, hk3⟩ := C
  simp only [am_do, am_i2] at h
  split at h
  · cases h
    intro lsC H locs cells slots hP hS hl hc hs
    exact lv_ishl hx hb hd (k lsC H locs cells slots hP hS hl hc hs)
  · cases h

theorem am_w_ishr (C : am_Cx b t z L xs D dA X mi d kc R p s m args meth c)  (hd : decode (am_mr mi).2.1 pc = .ok (.ishr, 1))  (h : am_do (.ishr) 1 x y mi pc ls st M = some (.inl (pc', ls', st', M'))) (k : am_WW b t z L xs D dA mi p l e R s m args below meth c Q kc ks pc' ls' st' M') : am_WW b t z L xs D dA mi p l e R s m args below meth c Q kc ks pc ls st M := by
  obtain ⟨hx, hb, hml, hown, hts, hSt, hr, hlk, hin, hfr, hlo, hz, hk3⟩ := C
  simp only [am_do, am_i2] at h
  split at h
  · cases h
    intro lsC H locs cells slots hP hS hl hc hs
    exact lv_ishr hx hb hd (k lsC H locs cells slots hP hS hl hc hs)
  · cases h

theorem am_w_ladd (C : am_Cx b t z L xs D dA X mi d kc R p s m args meth c)  (hd : decode (am_mr mi).2.1 pc = .ok (.ladd, 1))  (h : am_do (.ladd) 1 x y mi pc ls st M = some (.inl (pc', ls', st', M'))) (k : am_WW b t z L xs D dA mi p l e R s m args below meth c Q kc ks pc' ls' st' M') : am_WW b t z L xs D dA mi p l e R s m args below meth c Q kc ks pc ls st M := by
  obtain ⟨hx, hb, hml, hown, hts, hSt, hr, hlk, hin, hfr, hlo, hz, hk3⟩ := C
  simp only [am_do, am_l2] at h
  split at h
  · cases h
    intro lsC H locs cells slots hP hS hl hc hs
    exact lv_ladd hx hb hd (k lsC H locs cells slots hP hS hl hc hs)
  · cases h

theorem am_w_lsub (C : am_Cx b t z L xs D dA X mi d kc R p s m args meth c)  (hd : decode (am_mr mi).2.1 pc = .ok (.lsub, 1))  (h : am_do (.lsub) 1 x y mi pc ls st M = some (.inl (pc', ls', st', M'))) (k : am_WW b t z L xs D dA mi p l e R s m args below meth c Q kc ks pc' ls' st' M') : am_WW b t z L xs D dA mi p l e R s m args below meth c Q kc ks pc ls st M := by
  obtain ⟨hx, hb, hml, hown, hts, hSt, hr, hlk, hin, hfr, hlo, hz, hk3⟩ := C
  simp only [am_do, am_l2] at h
  split at h
  · cases h
    intro lsC H locs cells slots hP hS hl hc hs
    exact lv_lsub hx hb hd (k lsC H locs cells slots hP hS hl hc hs)
  · cases h

theorem am_w_lmul (C : am_Cx b t z L xs D dA X mi d kc R p s m args meth c)  (hd : decode (am_mr mi).2.1 pc = .ok (.lmul, 1))  (h : am_do (.lmul) 1 x y mi pc ls st M = some (.inl (pc', ls', st', M'))) (k : am_WW b t z L xs D dA mi p l e R s m args below meth c Q kc ks pc' ls' st' M') : am_WW b t z L xs D dA mi p l e R s m args below meth c Q kc ks pc ls st M := by
  obtain ⟨hx, hb, hml, hown, hts, hSt, hr, hlk, hin, hfr, hlo, hz, hk3⟩ := C
  simp only [am_do, am_l2] at h
  split at h
  · cases h
    intro lsC H locs cells slots hP hS hl hc hs
    exact lv_lmul hx hb hd (k lsC H locs cells slots hP hS hl hc hs)
  · cases h

theorem am_w_land (C : am_Cx b t z L xs D dA X mi d kc R p s m args meth c)  (hd : decode (am_mr mi).2.1 pc = .ok (.land, 1))  (h : am_do (.land) 1 x y mi pc ls st M = some (.inl (pc', ls', st', M'))) (k : am_WW b t z L xs D dA mi p l e R s m args below meth c Q kc ks pc' ls' st' M') : am_WW b t z L xs D dA mi p l e R s m args below meth c Q kc ks pc ls st M := by
  obtain ⟨hx, hb, hml, hown, hts, hSt, hr, hlk, hin, hfr, hlo, hz, hk3⟩ := C
  simp only [am_do, am_l2] at h
  split at h
  · cases h
    intro lsC H locs cells slots hP hS hl hc hs
    exact lv_land hx hb hd (k lsC H locs cells slots hP hS hl hc hs)
  · cases h

theorem am_w_lor (C : am_Cx b t z L xs D dA X mi d kc R p s m args meth c)  (hd : decode (am_mr mi).2.1 pc = .ok (.lor, 1))  (h : am_do (.lor) 1 x y mi pc ls st M = some (.inl (pc', ls', st', M'))) (k : am_WW b t z L xs D dA mi p l e R s m args below meth c Q kc ks pc' ls' st' M') : am_WW b t z L xs D dA mi p l e R s m args below meth c Q kc ks pc ls st M := by
  obtain ⟨hx, hb, hml, hown, hts, hSt, hr, hlk, hin, hfr, hlo, hz, hk3⟩ := C
  simp only [am_do, am_l2] at h
  split at h
  · cases h
    intro lsC H locs cells slots hP hS hl hc hs
    exact lv_lor hx hb hd (k lsC H locs cells slots hP hS hl hc hs)
  · cases h

theorem am_w_idiv (C : am_Cx b t z L xs D dA X mi d kc R p s m args meth c)  (hd : decode (am_mr mi).2.1 pc = .ok (.idiv, 1))  (h : am_do (.idiv) 1 x y mi pc ls st M = some (.inl (pc', ls', st', M'))) (k : am_WW b t z L xs D dA mi p l e R s m args below meth c Q kc ks pc' ls' st' M') : am_WW b t z L xs D dA mi p l e R s m args below meth c Q kc ks pc ls st M := by
  obtain ⟨hx, hb, hml, hown, hts, hSt, hr, hlk, hin, hfr, hlo, hz, hk3⟩ := C
  simp only [am_do] at h
  split at h
  · rename_i v u st1
    cases hz : (v == 0) with
    | true => rw [hz] at h; exact nomatch (show (none : Option am_S) = some _ from h)
    | false =>
      rw [hz] at h
      change am_go _ _ _ _ = _ at h
      cases h
      intro lsC H locs cells slots hP hS hl hc hs
      exact lv_idiv hx hb hd (by simpa using hz) (k lsC H locs cells slots hP hS hl hc hs)
  · cases h

theorem am_w_irem (C : am_Cx b t z L xs D dA X mi d kc R p s m args meth c)  (hd : decode (am_mr mi).2.1 pc = .ok (.irem, 1))  (h : am_do (.irem) 1 x y mi pc ls st M = some (.inl (pc', ls', st', M'))) (k : am_WW b t z L xs D dA mi p l e R s m args below meth c Q kc ks pc' ls' st' M') : am_WW b t z L xs D dA mi p l e R s m args below meth c Q kc ks pc ls st M := by
  obtain ⟨hx, hb, hml, hown, hts, hSt, hr, hlk, hin, hfr, hlo, hz, hk3⟩ := C
  simp only [am_do] at h
  split at h
  · rename_i v u st1
    cases hz : (v == 0) with
    | true => rw [hz] at h; exact nomatch (show (none : Option am_S) = some _ from h)
    | false =>
      rw [hz] at h
      change am_go _ _ _ _ = _ at h
      cases h
      intro lsC H locs cells slots hP hS hl hc hs
      exact lv_irem hx hb hd (by simpa using hz) (k lsC H locs cells slots hP hS hl hc hs)
  · cases h

theorem am_w_ldiv (C : am_Cx b t z L xs D dA X mi d kc R p s m args meth c)  (hd : decode (am_mr mi).2.1 pc = .ok (.ldiv, 1))  (h : am_do (.ldiv) 1 x y mi pc ls st M = some (.inl (pc', ls', st', M'))) (k : am_WW b t z L xs D dA mi p l e R s m args below meth c Q kc ks pc' ls' st' M') : am_WW b t z L xs D dA mi p l e R s m args below meth c Q kc ks pc ls st M := by
  obtain ⟨hx, hb, hml, hown, hts, hSt, hr, hlk, hin, hfr, hlo, hz, hk3⟩ := C
  simp only [am_do] at h
  split at h
  · rename_i v u st1
    cases hz : (v == 0) with
    | true => rw [hz] at h; exact nomatch (show (none : Option am_S) = some _ from h)
    | false =>
      rw [hz] at h
      change am_go _ _ _ _ = _ at h
      cases h
      intro lsC H locs cells slots hP hS hl hc hs
      exact lv_ldiv hx hb hd (by simpa using hz) (k lsC H locs cells slots hP hS hl hc hs)
  · cases h

theorem am_w_lrem (C : am_Cx b t z L xs D dA X mi d kc R p s m args meth c)  (hd : decode (am_mr mi).2.1 pc = .ok (.lrem, 1))  (h : am_do (.lrem) 1 x y mi pc ls st M = some (.inl (pc', ls', st', M'))) (k : am_WW b t z L xs D dA mi p l e R s m args below meth c Q kc ks pc' ls' st' M') : am_WW b t z L xs D dA mi p l e R s m args below meth c Q kc ks pc ls st M := by
  obtain ⟨hx, hb, hml, hown, hts, hSt, hr, hlk, hin, hfr, hlo, hz, hk3⟩ := C
  simp only [am_do] at h
  split at h
  · rename_i v u st1
    cases hz : (v == 0) with
    | true => rw [hz] at h; exact nomatch (show (none : Option am_S) = some _ from h)
    | false =>
      rw [hz] at h
      change am_go _ _ _ _ = _ at h
      cases h
      intro lsC H locs cells slots hP hS hl hc hs
      exact lv_lrem hx hb hd (by simpa using hz) (k lsC H locs cells slots hP hS hl hc hs)
  · cases h

theorem am_w_lshl (C : am_Cx b t z L xs D dA X mi d kc R p s m args meth c)  (hd : decode (am_mr mi).2.1 pc = .ok (.lshl, 1))  (h : am_do (.lshl) 1 x y mi pc ls st M = some (.inl (pc', ls', st', M'))) (k : am_WW b t z L xs D dA mi p l e R s m args below meth c Q kc ks pc' ls' st' M') : am_WW b t z L xs D dA mi p l e R s m args below meth c Q kc ks pc ls st M := by
  obtain ⟨hx, hb, hml, hown, hts, hSt, hr, hlk, hin, hfr, hlo, hz, hk3⟩ := C
  simp only [am_do] at h
  split at h
  · cases h
    intro lsC H locs cells slots hP hS hl hc hs
    exact lv_lshl hx hb hd rfl (k lsC H locs cells slots hP hS hl hc hs)
  · cases h

theorem am_w_lcmp (C : am_Cx b t z L xs D dA X mi d kc R p s m args meth c)  (hd : decode (am_mr mi).2.1 pc = .ok (.lcmp, 1))  (h : am_do (.lcmp) 1 x y mi pc ls st M = some (.inl (pc', ls', st', M'))) (k : am_WW b t z L xs D dA mi p l e R s m args below meth c Q kc ks pc' ls' st' M') : am_WW b t z L xs D dA mi p l e R s m args below meth c Q kc ks pc ls st M := by
  obtain ⟨hx, hb, hml, hown, hts, hSt, hr, hlk, hin, hfr, hlo, hz, hk3⟩ := C
  simp only [am_do] at h
  split at h
  · cases h
    intro lsC H locs cells slots hP hS hl hc hs
    exact W.lcmp hx hb hd (k lsC H locs cells slots hP hS hl hc hs)
  · cases h

theorem am_w_i2l (C : am_Cx b t z L xs D dA X mi d kc R p s m args meth c)  (hd : decode (am_mr mi).2.1 pc = .ok (.i2l, 1))  (h : am_do (.i2l) 1 x y mi pc ls st M = some (.inl (pc', ls', st', M'))) (k : am_WW b t z L xs D dA mi p l e R s m args below meth c Q kc ks pc' ls' st' M') : am_WW b t z L xs D dA mi p l e R s m args below meth c Q kc ks pc ls st M := by
  obtain ⟨hx, hb, hml, hown, hts, hSt, hr, hlk, hin, hfr, hlo, hz, hk3⟩ := C
  simp only [am_do] at h
  split at h
  · cases h
    intro lsC H locs cells slots hP hS hl hc hs
    exact lv_i2l hx hb hd rfl (k lsC H locs cells slots hP hS hl hc hs)
  · cases h

theorem am_w_l2i (C : am_Cx b t z L xs D dA X mi d kc R p s m args meth c)  (hd : decode (am_mr mi).2.1 pc = .ok (.l2i, 1))  (h : am_do (.l2i) 1 x y mi pc ls st M = some (.inl (pc', ls', st', M'))) (k : am_WW b t z L xs D dA mi p l e R s m args below meth c Q kc ks pc' ls' st' M') : am_WW b t z L xs D dA mi p l e R s m args below meth c Q kc ks pc ls st M := by
  obtain ⟨hx, hb, hml, hown, hts, hSt, hr, hlk, hin, hfr, hlo, hz, hk3⟩ := C
  simp only [am_do] at h
  split at h
  · cases h
    intro lsC H locs cells slots hP hS hl hc hs
    exact lv_l2i hx hb hd rfl (k lsC H locs cells slots hP hS hl hc hs)
  · cases h

theorem am_w_dup (C : am_Cx b t z L xs D dA X mi d kc R p s m args meth c)  (hd : decode (am_mr mi).2.1 pc = .ok (.dup, 1))  (h : am_do (.dup) 1 x y mi pc ls st M = some (.inl (pc', ls', st', M'))) (k : am_WW b t z L xs D dA mi p l e R s m args below meth c Q kc ks pc' ls' st' M') : am_WW b t z L xs D dA mi p l e R s m args below meth c Q kc ks pc ls st M := by
  obtain ⟨hx, hb, hml, hown, hts, hSt, hr, hlk, hin, hfr, hlo, hz, hk3⟩ := C
  simp only [am_do] at h
  split at h
  · cases h
    intro lsC H locs cells slots hP hS hl hc hs
    exact lv_dup hx hb hd rfl (k lsC H locs cells slots hP hS hl hc hs)
  · cases h
    intro lsC H locs cells slots hP hS hl hc hs
    exact lv_dup hx hb hd (am_cv_cat b t z _) (k lsC H locs cells slots hP hS hl hc hs)
  · cases h

theorem am_w_dup2 (C : am_Cx b t z L xs D dA X mi d kc R p s m args meth c)  (hd : decode (am_mr mi).2.1 pc = .ok (.dup2, 1))  (h : am_do (.dup2) 1 x y mi pc ls st M = some (.inl (pc', ls', st', M'))) (k : am_WW b t z L xs D dA mi p l e R s m args below meth c Q kc ks pc' ls' st' M') : am_WW b t z L xs D dA mi p l e R s m args below meth c Q kc ks pc ls st M := by
  obtain ⟨hx, hb, hml, hown, hts, hSt, hr, hlk, hin, hfr, hlo, hz, hk3⟩ := C
  simp only [am_do] at h
  split at h
  · cases h
    intro lsC H locs cells slots hP hS hl hc hs
    exact lv_dup2_11 hx hb hd rfl (am_cv_cat b t z _) (k lsC H locs cells slots hP hS hl hc hs)
  · cases h

theorem am_w_pop (C : am_Cx b t z L xs D dA X mi d kc R p s m args meth c)  (hd : decode (am_mr mi).2.1 pc = .ok (.pop, 1))  (h : am_do (.pop) 1 x y mi pc ls st M = some (.inl (pc', ls', st', M'))) (k : am_WW b t z L xs D dA mi p l e R s m args below meth c Q kc ks pc' ls' st' M') : am_WW b t z L xs D dA mi p l e R s m args below meth c Q kc ks pc ls st M := by
  obtain ⟨hx, hb, hml, hown, hts, hSt, hr, hlk, hin, hfr, hlo, hz, hk3⟩ := C
  simp only [am_do] at h
  split at h
  · cases h
    intro lsC H locs cells slots hP hS hl hc hs
    exact lv_pop hx hb hd rfl (k lsC H locs cells slots hP hS hl hc hs)
  · cases h

theorem am_w_goto (C : am_Cx b t z L xs D dA X mi d kc R p s m args meth c) {o : Int} (hd : decode (am_mr mi).2.1 pc = .ok (.goto o, 3)) (h1 : am_fw pc o = true) (h : am_do (.goto o) 3 x y mi pc ls st M = some (.inl (pc', ls', st', M'))) (k : am_WW b t z L xs D dA mi p l e R s m args below meth c Q kc ks pc' ls' st' M') : am_WW b t z L xs D dA mi p l e R s m args below meth c Q kc ks pc ls st M := by
  obtain ⟨hx, hb, hml, hown, hts, hSt, hr, hlk, hin, hfr, hlo, hz, hk3⟩ := C
  cases h
  intro lsC H locs cells slots hP hS hl hc hs
  exact lv_goto hx hb hd (am_fw_ok h1) (k lsC H locs cells slots hP hS hl hc hs)

theorem am_w_ifCond (C : am_Cx b t z L xs D dA X mi d kc R p s m args meth c) {g : ClassFile.Cond} {o : Int} (hd : decode (am_mr mi).2.1 pc = .ok (.ifCond g o, 3)) (h1 : am_fw pc o = true) (h : am_do (.ifCond g o) 3 x y mi pc ls st M = some (.inl (pc', ls', st', M'))) (k : am_WW b t z L xs D dA mi p l e R s m args below meth c Q kc ks pc' ls' st' M') : am_WW b t z L xs D dA mi p l e R s m args below meth c Q kc ks pc ls st M := by
  obtain ⟨hx, hb, hml, hown, hts, hSt, hr, hlk, hin, hfr, hlo, hz, hk3⟩ := C
  simp only [am_do] at h
  split at h
  · cases h
    intro lsC H locs cells slots hP hS hl hc hs
    have k := k lsC H locs cells slots hP hS hl hc hs
    cases g with
    | eq => exact lv_if_eq hx hb hd (am_fw_ok h1) (fun q => by simpa [am_cc, q] using k) (fun q => by simpa [am_cc, q] using k)
    | ne => exact lv_if_ne hx hb hd (am_fw_ok h1) (fun q => by simpa [am_cc, q] using k) (fun q => by simpa [am_cc, q] using k)
    | lt => exact lv_if_lt hx hb hd (am_fw_ok h1) (fun q => by simpa [am_cc, q] using k) (fun q => by simpa [am_cc, q] using k)
    | ge => exact lv_if_ge hx hb hd (am_fw_ok h1) (fun q => by simpa [am_cc, q] using k) (fun q => by simpa [am_cc, q] using k)
    | gt => exact lv_if_gt hx hb hd (am_fw_ok h1) (fun q => by simpa [am_cc, q] using k) (fun q => by simpa [am_cc, q] using k)
    | le => exact lv_if_le hx hb hd (am_fw_ok h1) (fun q => by simpa [am_cc, q] using k) (fun q => by simpa [am_cc, q] using k)
  · cases h

theorem am_w_if_icmp (C : am_Cx b t z L xs D dA X mi d kc R p s m args meth c) {g : ClassFile.Cond} {o : Int} (hd : decode (am_mr mi).2.1 pc = .ok (.if_icmp g o, 3)) (h1 : am_fw pc o = true) (h : am_do (.if_icmp g o) 3 x y mi pc ls st M = some (.inl (pc', ls', st', M'))) (k : am_WW b t z L xs D dA mi p l e R s m args below meth c Q kc ks pc' ls' st' M') : am_WW b t z L xs D dA mi p l e R s m args below meth c Q kc ks pc ls st M := by
  obtain ⟨hx, hb, hml, hown, hts, hSt, hr, hlk, hin, hfr, hlo, hz, hk3⟩ := C
  simp only [am_do] at h
  split at h
  · cases h
    intro lsC H locs cells slots hP hS hl hc hs
    have k := k lsC H locs cells slots hP hS hl hc hs
    cases g with
    | eq => exact lv_icmp_eq hx hb hd (am_fw_ok h1) (fun q => by simpa [am_cc, q] using k) (fun q => by simpa [am_cc, q] using k)
    | ne => exact lv_icmp_ne hx hb hd (am_fw_ok h1) (fun q => by simpa [am_cc, q] using k) (fun q => by simpa [am_cc, q] using k)
    | lt => exact lv_icmp_lt hx hb hd (am_fw_ok h1) (fun q => by simpa [am_cc, q] using k) (fun q => by simpa [am_cc, q] using k)
    | ge => exact lv_icmp_ge hx hb hd (am_fw_ok h1) (fun q => by simpa [am_cc, q] using k) (fun q => by simpa [am_cc, q] using k)
    | gt => exact lv_icmp_gt hx hb hd (am_fw_ok h1) (fun q => by simpa [am_cc, q] using k) (fun q => by simpa [am_cc, q] using k)
    | le => exact lv_icmp_le hx hb hd (am_fw_ok h1) (fun q => by simpa [am_cc, q] using k) (fun q => by simpa [am_cc, q] using k)
  · cases h

end AMS
