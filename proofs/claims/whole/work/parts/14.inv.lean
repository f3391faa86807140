/-! ===== the number of cells does not fall ===== -/
theorem am_do_n {i : Instr} {n x y mi pc : Nat} {ls : am_Ls} {st : List Value} {M : am_Mem} {pc' : Nat} {ls' : am_Ls} {st' : List Value} {M' : am_Mem} (h : am_do i n x y mi pc ls st M = some (.inl (pc', ls', st', M'))) : M.2.2.2 ≤ M'.2.2.2 := by
  cases i with
  | iconst v => cases h; exact Nat.le_refl _
  | bipush v => cases h; exact Nat.le_refl _
  | sipush v => cases h; exact Nat.le_refl _
  | lconst v => cases h; exact Nat.le_refl _
  | goto o => cases h; exact Nat.le_refl _
  | ldc2_w j => cases h; exact Nat.le_refl _
  | iadd => simp only [am_do, am_i2] at h; split at h <;> first | (cases h; done) | (cases (am_if_inl h); first | exact Nat.le_refl _ | exact Nat.le_succ _) | (cases h; exact Nat.le_refl _)
  | isub => simp only [am_do, am_i2] at h; split at h <;> first | (cases h; done) | (cases (am_if_inl h); first | exact Nat.le_refl _ | exact Nat.le_succ _) | (cases h; exact Nat.le_refl _)
  | imul => simp only [am_do, am_i2] at h; split at h <;> first | (cases h; done) | (cases (am_if_inl h); first | exact Nat.le_refl _ | exact Nat.le_succ _) | (cases h; exact Nat.le_refl _)
  | iand => simp only [am_do, am_i2] at h; split at h <;> first | (cases h; done) | (cases (am_if_inl h); first | exact Nat.le_refl _ | exact Nat.le_succ _) | (cases h; exact Nat.le_refl _)
  | ior => simp only [am_do, am_i2] at h; split at h <;> first | (cases h; done) | (cases (am_if_inl h); first | exact Nat.le_refl _ | exact Nat.le_succ _) | (cases h; exact Nat.le_refl _)
  | ixor => simp only [am_do, am_i2] at h; split at h <;> first | (cases h; done) | (cases (am_if_inl h); first | exact Nat.le_refl _ | exact Nat.le_succ _) | (cases h; exact Nat.le_refl _)
  | ishl => simp only [am_do, am_i2] at h; split at h <;> first | (cases h; done) | (cases (am_if_inl h); first | exact Nat.le_refl _ | exact Nat.le_succ _) | (cases h; exact Nat.le_refl _)
  | ishr => simp only [am_do, am_i2] at h; split at h <;> first | (cases h; done) | (cases (am_if_inl h); first | exact Nat.le_refl _ | exact Nat.le_succ _) | (cases h; exact Nat.le_refl _)
  | ladd => simp only [am_do, am_l2] at h; split at h <;> first | (cases h; done) | (cases (am_if_inl h); first | exact Nat.le_refl _ | exact Nat.le_succ _) | (cases h; exact Nat.le_refl _)
  | lsub => simp only [am_do, am_l2] at h; split at h <;> first | (cases h; done) | (cases (am_if_inl h); first | exact Nat.le_refl _ | exact Nat.le_succ _) | (cases h; exact Nat.le_refl _)
  | lmul => simp only [am_do, am_l2] at h; split at h <;> first | (cases h; done) | (cases (am_if_inl h); first | exact Nat.le_refl _ | exact Nat.le_succ _) | (cases h; exact Nat.le_refl _)
  | land => simp only [am_do, am_l2] at h; split at h <;> first | (cases h; done) | (cases (am_if_inl h); first | exact Nat.le_refl _ | exact Nat.le_succ _) | (cases h; exact Nat.le_refl _)
  | lor => simp only [am_do, am_l2] at h; split at h <;> first | (cases h; done) | (cases (am_if_inl h); first | exact Nat.le_refl _ | exact Nat.le_succ _) | (cases h; exact Nat.le_refl _)
  | idiv => simp only [am_do] at h; split at h <;> first | (cases h; done) | (cases (am_if_inl h); first | exact Nat.le_refl _ | exact Nat.le_succ _) | (cases h; exact Nat.le_refl _)
  | irem => simp only [am_do] at h; split at h <;> first | (cases h; done) | (cases (am_if_inl h); first | exact Nat.le_refl _ | exact Nat.le_succ _) | (cases h; exact Nat.le_refl _)
  | ldiv => simp only [am_do] at h; split at h <;> first | (cases h; done) | (cases (am_if_inl h); first | exact Nat.le_refl _ | exact Nat.le_succ _) | (cases h; exact Nat.le_refl _)
  | lrem => simp only [am_do] at h; split at h <;> first | (cases h; done) | (cases (am_if_inl h); first | exact Nat.le_refl _ | exact Nat.le_succ _) | (cases h; exact Nat.le_refl _)
  | lshl => simp only [am_do] at h; split at h <;> first | (cases h; done) | (cases (am_if_inl h); first | exact Nat.le_refl _ | exact Nat.le_succ _) | (cases h; exact Nat.le_refl _)
  | lcmp => simp only [am_do] at h; split at h <;> first | (cases h; done) | (cases (am_if_inl h); first | exact Nat.le_refl _ | exact Nat.le_succ _) | (cases h; exact Nat.le_refl _)
  | i2l => simp only [am_do] at h; split at h <;> first | (cases h; done) | (cases (am_if_inl h); first | exact Nat.le_refl _ | exact Nat.le_succ _) | (cases h; exact Nat.le_refl _)
  | l2i => simp only [am_do] at h; split at h <;> first | (cases h; done) | (cases (am_if_inl h); first | exact Nat.le_refl _ | exact Nat.le_succ _) | (cases h; exact Nat.le_refl _)
  | dup => simp only [am_do] at h; split at h <;> first | (cases h; done) | (cases (am_if_inl h); first | exact Nat.le_refl _ | exact Nat.le_succ _) | (cases h; exact Nat.le_refl _)
  | dup2 => simp only [am_do] at h; split at h <;> first | (cases h; done) | (cases (am_if_inl h); first | exact Nat.le_refl _ | exact Nat.le_succ _) | (cases h; exact Nat.le_refl _)
  | pop => simp only [am_do] at h; split at h <;> first | (cases h; done) | (cases (am_if_inl h); first | exact Nat.le_refl _ | exact Nat.le_succ _) | (cases h; exact Nat.le_refl _)
  | arraylength => simp only [am_do] at h; split at h <;> first | (cases h; done) | (cases (am_if_inl h); first | exact Nat.le_refl _ | exact Nat.le_succ _) | (cases h; exact Nat.le_refl _)
  | iaload => simp only [am_do] at h; split at h <;> first | (cases h; done) | (cases (am_if_inl h); first | exact Nat.le_refl _ | exact Nat.le_succ _) | (cases h; exact Nat.le_refl _)
  | caload => simp only [am_do] at h; split at h <;> first | (cases h; done) | (cases (am_if_inl h); first | exact Nat.le_refl _ | exact Nat.le_succ _) | (cases h; exact Nat.le_refl _)
  | baload => simp only [am_do] at h; split at h <;> first | (cases h; done) | (cases (am_if_inl h); first | exact Nat.le_refl _ | exact Nat.le_succ _) | (cases h; exact Nat.le_refl _)
  | laload => simp only [am_do] at h; split at h <;> first | (cases h; done) | (cases (am_if_inl h); first | exact Nat.le_refl _ | exact Nat.le_succ _) | (cases h; exact Nat.le_refl _)
  | iastore => simp only [am_do] at h; split at h <;> first | (cases h; done) | (cases (am_if_inl h); first | exact Nat.le_refl _ | exact Nat.le_succ _) | (cases h; exact Nat.le_refl _)
  | castore => simp only [am_do] at h; split at h <;> first | (cases h; done) | (cases (am_if_inl h); first | exact Nat.le_refl _ | exact Nat.le_succ _) | (cases h; exact Nat.le_refl _)
  | bastore => simp only [am_do] at h; split at h <;> first | (cases h; done) | (cases (am_if_inl h); first | exact Nat.le_refl _ | exact Nat.le_succ _) | (cases h; exact Nat.le_refl _)
  | lastore => simp only [am_do] at h; split at h <;> first | (cases h; done) | (cases (am_if_inl h); first | exact Nat.le_refl _ | exact Nat.le_succ _) | (cases h; exact Nat.le_refl _)
  | iload j => simp only [am_do, am_ld] at h; split at h <;> first | (cases h; done) | (cases (am_if_inl h); first | exact Nat.le_refl _ | exact Nat.le_succ _) | (cases h; exact Nat.le_refl _)
  | iload_n j => simp only [am_do, am_ld] at h; split at h <;> first | (cases h; done) | (cases (am_if_inl h); first | exact Nat.le_refl _ | exact Nat.le_succ _) | (cases h; exact Nat.le_refl _)
  | lload j => simp only [am_do, am_ld] at h; split at h <;> first | (cases h; done) | (cases (am_if_inl h); first | exact Nat.le_refl _ | exact Nat.le_succ _) | (cases h; exact Nat.le_refl _)
  | lload_n j => simp only [am_do, am_ld] at h; split at h <;> first | (cases h; done) | (cases (am_if_inl h); first | exact Nat.le_refl _ | exact Nat.le_succ _) | (cases h; exact Nat.le_refl _)
  | aload j => simp only [am_do, am_ld] at h; split at h <;> first | (cases h; done) | (cases (am_if_inl h); first | exact Nat.le_refl _ | exact Nat.le_succ _) | (cases h; exact Nat.le_refl _)
  | aload_n j => simp only [am_do, am_ld] at h; split at h <;> first | (cases h; done) | (cases (am_if_inl h); first | exact Nat.le_refl _ | exact Nat.le_succ _) | (cases h; exact Nat.le_refl _)
  | istore j => simp only [am_do, am_sv] at h; split at h <;> first | (cases h; done) | (cases (am_if_inl h); first | exact Nat.le_refl _ | exact Nat.le_succ _) | (cases h; exact Nat.le_refl _)
  | istore_n j => simp only [am_do, am_sv] at h; split at h <;> first | (cases h; done) | (cases (am_if_inl h); first | exact Nat.le_refl _ | exact Nat.le_succ _) | (cases h; exact Nat.le_refl _)
  | lstore j => simp only [am_do, am_sv] at h; split at h <;> first | (cases h; done) | (cases (am_if_inl h); first | exact Nat.le_refl _ | exact Nat.le_succ _) | (cases h; exact Nat.le_refl _)
  | lstore_n j => simp only [am_do, am_sv] at h; split at h <;> first | (cases h; done) | (cases (am_if_inl h); first | exact Nat.le_refl _ | exact Nat.le_succ _) | (cases h; exact Nat.le_refl _)
  | astore j => simp only [am_do, am_sv] at h; split at h <;> first | (cases h; done) | (cases (am_if_inl h); first | exact Nat.le_refl _ | exact Nat.le_succ _) | (cases h; exact Nat.le_refl _)
  | astore_n j => simp only [am_do, am_sv] at h; split at h <;> first | (cases h; done) | (cases (am_if_inl h); first | exact Nat.le_refl _ | exact Nat.le_succ _) | (cases h; exact Nat.le_refl _)
  | iinc j v => simp only [am_do] at h; split at h <;> first | (cases h; done) | (cases (am_if_inl h); first | exact Nat.le_refl _ | exact Nat.le_succ _) | (cases h; exact Nat.le_refl _)
  | ifCond g o => simp only [am_do] at h; split at h <;> first | (cases h; done) | (cases (am_if_inl h); first | exact Nat.le_refl _ | exact Nat.le_succ _) | (cases h; exact Nat.le_refl _)
  | if_icmp g o => simp only [am_do] at h; split at h <;> first | (cases h; done) | (cases (am_if_inl h); first | exact Nat.le_refl _ | exact Nat.le_succ _) | (cases h; exact Nat.le_refl _)
  | tableswitch dd lo hi os => simp only [am_do] at h; split at h <;> first | (cases h; done) | (cases (am_if_inl h); first | exact Nat.le_refl _ | exact Nat.le_succ _) | (cases h; exact Nat.le_refl _)
  | lookupswitch dd os => simp only [am_do] at h; split at h <;> first | (cases h; done) | (cases (am_if_inl h); first | exact Nat.le_refl _ | exact Nat.le_succ _) | (cases h; exact Nat.le_refl _)
  | getfield j => simp only [am_do, am_get] at h; split at h <;> first | (cases h; done) | (cases (am_if_inl h); first | exact Nat.le_refl _ | exact Nat.le_succ _) | (cases h; exact Nat.le_refl _)
  | putfield j =>
    simp only [am_do] at h
    cases hb : ((am_fty x y).2 && !(Nat.beq (am_mk mi) 2 && Nat.beq (am_mc mi) x)) with
    | true => rw [hb] at h; exact nomatch (show (none : Option am_S) = some _ from h)
    | false =>
      rw [hb] at h
      change am_put mi n pc x y ls st M = _ at h
      simp only [am_put] at h
      split at h <;> first | (cases h; done) | (cases (am_if_inl h); first | exact Nat.le_refl _ | exact Nat.le_succ _) | (cases h; exact Nat.le_refl _)
  | ldc j =>
    simp only [am_do] at h
    cases hb : Nat.beq y 0 with
    | true => rw [hb] at h; cases (show am_go _ _ _ _ = _ from h); exact Nat.le_refl _
    | false => rw [hb] at h; cases (show am_go _ _ _ _ = _ from h); exact Nat.le_refl _
  | ldc_w j => cases (am_if_inl (show am_if (Nat.beq y 0) _ = _ from h)); exact Nat.le_refl _
  | new j => cases (am_if_inl (show am_if _ _ = _ from h)); exact Nat.le_succ _
  | newarray g => simp only [am_do] at h; split at h <;> first | (cases h; done) | (cases (am_if_inl h); first | exact Nat.le_refl _ | exact Nat.le_succ _) | (cases h; exact Nat.le_refl _)
  | invokevirtual j =>
    change am_inv true 0 0 17 99 n x y pc ls st M = _ at h
    unfold am_inv at h
    cases hy : (Nat.ble 17 y && Nat.ble y 99) with
    | true =>
      rw [hy] at h
      simp only [cond_true, am_jdk] at h
      split at h <;> first | (cases h; done) | (cases (am_if_inl h); first | exact Nat.le_refl _ | exact Nat.le_succ _) | (cases h; exact Nat.le_refl _)
    | false =>
      rw [hy] at h
      simp only [cond_false] at h
      obtain ⟨u, hu⟩ := am_call_inr (am_if_inl (show am_if _ _ = _ from h))
      exact nomatch hu
  | invokestatic j =>
    change am_inv false 1 1 10 15 n x y pc ls st M = _ at h
    unfold am_inv at h
    cases hy : (Nat.ble 10 y && Nat.ble y 15) with
    | true =>
      rw [hy] at h
      simp only [cond_true, am_jdk] at h
      split at h <;> first | (cases h; done) | (cases (am_if_inl h); first | exact Nat.le_refl _ | exact Nat.le_succ _) | (cases h; exact Nat.le_refl _)
    | false =>
      rw [hy] at h
      simp only [cond_false] at h
      obtain ⟨u, hu⟩ := am_call_inr (am_if_inl (show am_if _ _ = _ from h))
      exact nomatch hu
  | invokespecial j =>
    change am_inv true 2 4 16 16 n x y pc ls st M = _ at h
    unfold am_inv at h
    cases hy : (Nat.ble 16 y && Nat.ble y 16) with
    | true =>
      rw [hy] at h
      simp only [cond_true, am_jdk] at h
      split at h <;> first | (cases h; done) | (cases (am_if_inl h); first | exact Nat.le_refl _ | exact Nat.le_succ _) | (cases h; exact Nat.le_refl _)
    | false =>
      rw [hy] at h
      simp only [cond_false] at h
      obtain ⟨u, hu⟩ := am_call_inr (am_if_inl (show am_if _ _ = _ from h))
      exact nomatch hu
  | ireturn =>
    exfalso
    simp only [am_do] at h
    split at h
    all_goals first | (cases h; done) | (cases (am_if_inl h); done)
  | lreturn =>
    exfalso
    simp only [am_do] at h
    split at h
    all_goals first | (cases h; done) | (cases (am_if_inl h); done)
  | return_ =>
    exfalso
    simp only [am_do] at h
    split at h
    all_goals first | (cases h; done) | (cases (am_if_inl h); done)
  | _ => exact nomatch (show (none : Option am_S) = some _ from h)
theorem am_stp_n {mi pc : Nat} {ls : am_Ls} {st : List Value} {M : am_Mem} {pc' : Nat} {ls' : am_Ls} {st' : List Value} {M' : am_Mem} (h : am_stp mi pc ls st M = some (.inl (pc', ls', st', M'))) : M.2.2.2 ≤ M'.2.2.2 := by
  unfold am_stp at h
  split at h
  · cases h
  · exact am_do_n h
/-- what a call step is -/
theorem am_pop_spec : ∀ (k : Nat) (st acc : List Value) {as rest : List Value}, am_pop k st acc = some (as, rest) → ∃ l, as = l.reverse ++ acc ∧ st = l ++ rest ∧ l.length = k
  | 0, st, acc, as, rest, h => by cases h; exact ⟨[], rfl, rfl, rfl⟩
  | k + 1, [], acc, as, rest, h => by cases h
  | k + 1, v :: st, acc, as, rest, h => by
    obtain ⟨l, h1, h2, h3⟩ := am_pop_spec k st (v :: acc) h
    exact ⟨v :: l, by rw [h1]; simp, by rw [h2]; rfl, by simp [h3]⟩
theorem am_call_spec {mj np n pc : Nat} {ls : am_Ls} {st : List Value} {M : am_Mem} {rcv : Bool} {ci : Nat} {mk as pc' ls' rest M'} (h : am_call mj np n pc ls st M rcv ci = some (.inr (.inl (mk, as, pc', ls', rest, M')))) :
    mk = mj ∧ pc' = pc + n ∧ ls' = ls ∧ M' = M ∧ am_sum rest ≤ 8 ∧ ((rcv = true ∧ ∃ a as0, as = .ref a :: as0 ∧ as0.length = np ∧ st = as0.reverse ++ .ref a :: rest ∧ am_cf M.2.2.2 a ci = true) ∨ (rcv = false ∧ as.length = np ∧ st = as.reverse ++ rest)) := by
  unfold am_call at h
  split at h
  · cases h
  · rename_i as0 st1 hp
    obtain ⟨l, h1, h2, h3⟩ := am_pop_spec _ _ _ hp
    have hr : as0.reverse = l := by rw [h1]; simp
    have hlen : as0.length = np := by rw [← h3, ← hr]; simp
    cases rcv with
    | true =>
      simp only [cond_true] at h
      split at h
      · rename_i a rest0
        cases hb : (Nat.ble (am_sum rest0) 8 && am_cf M.2.2.2 a ci) with
        | false => rw [hb] at h; exact nomatch (show (none : Option am_S) = some _ from h)
        | true =>
          rw [hb] at h
          cases (show some _ = some _ from h)
          rw [Bool.and_eq_true] at hb
          exact ⟨rfl, rfl, rfl, rfl, Nat.le_of_ble_eq_true hb.1, Or.inl ⟨rfl, a, as0, rfl, hlen, by rw [hr]; exact h2, hb.2⟩⟩
      · cases h
    | false =>
      simp only [cond_false] at h
      cases hb : Nat.ble (am_sum st1) 8 with
      | false => rw [hb] at h; exact nomatch (show (none : Option am_S) = some _ from h)
      | true =>
        rw [hb] at h
        cases (show some _ = some _ from h)
        exact ⟨rfl, rfl, rfl, rfl, Nat.le_of_ble_eq_true hb, Or.inr ⟨rfl, hlen, by rw [hr]; exact h2⟩⟩
theorem am_lv_args (b t z : Nat) : ∀ (as : List Value) (i : Nat), am_cm b t z (lv_args i as) = lv_args i (as.map (am_cv b t z))
  | [], i => rfl
  | v :: as, i => by
    show (i, am_cv b t z v) :: am_cm b t z (lv_args (if v.category = 2 then i + 2 else i + 1) as) = (i, am_cv b t z v) :: lv_args (if (am_cv b t z v).category = 2 then i + 2 else i + 1) (as.map (am_cv b t z))
    rw [am_lv_args b t z as, am_cv_cat]
theorem am_lg_sl (b t z : Nat) (as : List Value) : (lg_sl (as.map (am_cv b t z))).length = am_w as := by
  unfold am_w
  induction as with
  | nil => rfl
  | cons v as ih =>
    unfold lg_sl at ih ⊢
    rw [List.map_cons, List.flatMap_cons, List.flatMap_cons, List.length_append, List.length_append, ih, am_cv_cat]
    split <;> rfl
theorem am_mr_spec (mi : Nat) : am_cwP (am_mr mi) ∧ am_chkM (am_mr mi) = true := by
  unfold am_mr
  cases hq : am_nth am_PM mi with
  | some q =>
    have hm := am_mem_PM hq
    exact ⟨am_W_ok q hm, List.all_eq_true.mp am_M_ok q hm⟩
  | none =>
    have hm : (am_m0, am_c0) ∈ am_PM := am_mem_PM (mi := 0) rfl
    exact ⟨am_W_ok (am_m0, am_c0) hm, List.all_eq_true.mp am_M_ok (am_m0, am_c0) hm⟩
theorem am_sl_mono {a c : Nat} (h : a ≤ c) : am_sl a ≤ am_sl c := by
  induction h with
  | refl => exact Nat.le_refl _
  | step _ ih => exact Nat.le_trans ih (Nat.le_add_right _ _)
/-- a call step out of its instruction -/
theorem am_stp_call {mi pc : Nat} {ls : am_Ls} {st : List Value} {M : am_Mem} {mj : Nat} {as : List Value} {pc' : Nat} {ls' : am_Ls} {rest : List Value} {M' : am_Mem} (h : am_stp mi pc ls st M = some (.inr (.inl (mj, as, pc', ls', rest, M')))) :
    ∃ (j y : Nat) (rcv : Bool), am_has4 am_ML (am_mc mi * 100000 + j) mj y = true ∧ j < 100000 ∧ am_call mj (am_np mj) 3 pc ls st M rcv (am_mc mj) = some (.inr (.inl (mj, as, pc', ls', rest, M'))) ∧
      ((y = 0 ∧ rcv = true ∧ decode (am_mr mi).2.1 pc = .ok (.invokevirtual j, 3)) ∨ (y = 1 ∧ rcv = false ∧ decode (am_mr mi).2.1 pc = .ok (.invokestatic j, 3)) ∨ ((y = 2 ∨ y = 4) ∧ rcv = true ∧ decode (am_mr mi).2.1 pc = .ok (.invokespecial j, 3))) := by
  unfold am_stp at h
  cases hi : am_ins mi pc with
  | none => rw [hi] at h; exact nomatch h
  | some q =>
    obtain ⟨i, n, x, y⟩ := q
    rw [hi] at h
    obtain ⟨hd, hn, hop, hix⟩ := am_ins_spec hi
    change am_do i n x y mi pc ls st M = _ at h
    cases i with
    | iconst v => exact nomatch h
    | bipush v => exact nomatch h
    | sipush v => exact nomatch h
    | lconst v => exact nomatch h
    | goto o => exact nomatch h
    | ldc2_w j => exact nomatch h
    | iadd => simp only [am_do, am_i2] at h; split at h <;> first | (cases h; done) | (cases (am_if_inl h); done)
    | isub => simp only [am_do, am_i2] at h; split at h <;> first | (cases h; done) | (cases (am_if_inl h); done)
    | imul => simp only [am_do, am_i2] at h; split at h <;> first | (cases h; done) | (cases (am_if_inl h); done)
    | iand => simp only [am_do, am_i2] at h; split at h <;> first | (cases h; done) | (cases (am_if_inl h); done)
    | ior => simp only [am_do, am_i2] at h; split at h <;> first | (cases h; done) | (cases (am_if_inl h); done)
    | ixor => simp only [am_do, am_i2] at h; split at h <;> first | (cases h; done) | (cases (am_if_inl h); done)
    | ishl => simp only [am_do, am_i2] at h; split at h <;> first | (cases h; done) | (cases (am_if_inl h); done)
    | ishr => simp only [am_do, am_i2] at h; split at h <;> first | (cases h; done) | (cases (am_if_inl h); done)
    | ladd => simp only [am_do, am_l2] at h; split at h <;> first | (cases h; done) | (cases (am_if_inl h); done)
    | lsub => simp only [am_do, am_l2] at h; split at h <;> first | (cases h; done) | (cases (am_if_inl h); done)
    | lmul => simp only [am_do, am_l2] at h; split at h <;> first | (cases h; done) | (cases (am_if_inl h); done)
    | land => simp only [am_do, am_l2] at h; split at h <;> first | (cases h; done) | (cases (am_if_inl h); done)
    | lor => simp only [am_do, am_l2] at h; split at h <;> first | (cases h; done) | (cases (am_if_inl h); done)
    | idiv => simp only [am_do] at h; split at h <;> first | (cases h; done) | (cases (am_if_inl h); done)
    | irem => simp only [am_do] at h; split at h <;> first | (cases h; done) | (cases (am_if_inl h); done)
    | ldiv => simp only [am_do] at h; split at h <;> first | (cases h; done) | (cases (am_if_inl h); done)
    | lrem => simp only [am_do] at h; split at h <;> first | (cases h; done) | (cases (am_if_inl h); done)
    | lshl => simp only [am_do] at h; split at h <;> first | (cases h; done) | (cases (am_if_inl h); done)
    | lcmp => simp only [am_do] at h; split at h <;> first | (cases h; done) | (cases (am_if_inl h); done)
    | i2l => simp only [am_do] at h; split at h <;> first | (cases h; done) | (cases (am_if_inl h); done)
    | l2i => simp only [am_do] at h; split at h <;> first | (cases h; done) | (cases (am_if_inl h); done)
    | dup => simp only [am_do] at h; split at h <;> first | (cases h; done) | (cases (am_if_inl h); done)
    | dup2 => simp only [am_do] at h; split at h <;> first | (cases h; done) | (cases (am_if_inl h); done)
    | pop => simp only [am_do] at h; split at h <;> first | (cases h; done) | (cases (am_if_inl h); done)
    | arraylength => simp only [am_do] at h; split at h <;> first | (cases h; done) | (cases (am_if_inl h); done)
    | iaload => simp only [am_do] at h; split at h <;> first | (cases h; done) | (cases (am_if_inl h); done)
    | caload => simp only [am_do] at h; split at h <;> first | (cases h; done) | (cases (am_if_inl h); done)
    | baload => simp only [am_do] at h; split at h <;> first | (cases h; done) | (cases (am_if_inl h); done)
    | laload => simp only [am_do] at h; split at h <;> first | (cases h; done) | (cases (am_if_inl h); done)
    | iastore => simp only [am_do] at h; split at h <;> first | (cases h; done) | (cases (am_if_inl h); done)
    | castore => simp only [am_do] at h; split at h <;> first | (cases h; done) | (cases (am_if_inl h); done)
    | bastore => simp only [am_do] at h; split at h <;> first | (cases h; done) | (cases (am_if_inl h); done)
    | lastore => simp only [am_do] at h; split at h <;> first | (cases h; done) | (cases (am_if_inl h); done)
    | iload j => simp only [am_do, am_ld] at h; split at h <;> first | (cases h; done) | (cases (am_if_inl h); done)
    | iload_n j => simp only [am_do, am_ld] at h; split at h <;> first | (cases h; done) | (cases (am_if_inl h); done)
    | lload j => simp only [am_do, am_ld] at h; split at h <;> first | (cases h; done) | (cases (am_if_inl h); done)
    | lload_n j => simp only [am_do, am_ld] at h; split at h <;> first | (cases h; done) | (cases (am_if_inl h); done)
    | aload j => simp only [am_do, am_ld] at h; split at h <;> first | (cases h; done) | (cases (am_if_inl h); done)
    | aload_n j => simp only [am_do, am_ld] at h; split at h <;> first | (cases h; done) | (cases (am_if_inl h); done)
    | istore j => simp only [am_do, am_sv] at h; split at h <;> first | (cases h; done) | (cases (am_if_inl h); done)
    | istore_n j => simp only [am_do, am_sv] at h; split at h <;> first | (cases h; done) | (cases (am_if_inl h); done)
    | lstore j => simp only [am_do, am_sv] at h; split at h <;> first | (cases h; done) | (cases (am_if_inl h); done)
    | lstore_n j => simp only [am_do, am_sv] at h; split at h <;> first | (cases h; done) | (cases (am_if_inl h); done)
    | astore j => simp only [am_do, am_sv] at h; split at h <;> first | (cases h; done) | (cases (am_if_inl h); done)
    | astore_n j => simp only [am_do, am_sv] at h; split at h <;> first | (cases h; done) | (cases (am_if_inl h); done)
    | iinc j v => simp only [am_do] at h; split at h <;> first | (cases h; done) | (cases (am_if_inl h); done)
    | ifCond g o => simp only [am_do] at h; split at h <;> first | (cases h; done) | (cases (am_if_inl h); done)
    | if_icmp g o => simp only [am_do] at h; split at h <;> first | (cases h; done) | (cases (am_if_inl h); done)
    | tableswitch dd lo hi os => simp only [am_do] at h; split at h <;> first | (cases h; done) | (cases (am_if_inl h); done)
    | lookupswitch dd os => simp only [am_do] at h; split at h <;> first | (cases h; done) | (cases (am_if_inl h); done)
    | newarray g => simp only [am_do] at h; split at h <;> first | (cases h; done) | (cases (am_if_inl h); done)
    | getfield j => simp only [am_do, am_get] at h; split at h <;> first | (cases h; done) | (cases (am_if_inl h); done)
    | putfield j =>
      simp only [am_do] at h
      cases hb : ((am_fty x y).2 && !(Nat.beq (am_mk mi) 2 && Nat.beq (am_mc mi) x)) with
      | true => rw [hb] at h; exact nomatch (show (none : Option am_S) = some _ from h)
      | false =>
        rw [hb] at h
        change am_put mi n pc x y ls st M = _ at h
        simp only [am_put] at h
        split at h <;> first | (cases h; done) | (cases (am_if_inl h); done)
    | ldc j =>
      simp only [am_do] at h
      cases hb : Nat.beq y 0 with
      | true => rw [hb] at h; exact nomatch (show am_go _ _ _ _ = _ from h)
      | false => rw [hb] at h; exact nomatch (show am_go _ _ _ _ = _ from h)
    | ldc_w j => exact nomatch (am_if_inl (show am_if (Nat.beq y 0) _ = _ from h))
    | new j => exact nomatch (am_if_inl (show am_if _ _ = _ from h))
    | invokevirtual j =>
      have e : n = am_len _ := hn.resolve_left (fun q => nomatch (show false = true from q))
      subst e
      change am_inv true 0 0 17 99 3 x y pc ls st M = _ at h
      unfold am_inv at h
      cases hy : (Nat.ble 17 y && Nat.ble y 99) with
      | true =>
        exfalso
        rw [hy] at h
        simp only [cond_true, am_jdk] at h
        split at h <;> first | (cases h; done) | (cases (am_if_inl h); done)
      | false =>
        rw [hy] at h
        simp only [cond_false] at h
        cases hk : (Nat.beq y 0 || Nat.beq y 0) with
        | false => rw [hk] at h; exact nomatch (show (none : Option am_S) = some _ from h)
        | true =>
          rw [hk] at h
          simp only [cond_true] at h
          obtain ⟨rfl, -⟩ := am_call_spec h
          rw [Bool.or_eq_true] at hk
          exact ⟨j, y, true, hop, Nat.blt_eq.mp hix, h, Or.inl ⟨by rcases hk with q | q <;> exact Nat.eq_of_beq_eq_true q, rfl, hd⟩⟩
    | invokestatic j =>
      have e : n = am_len _ := hn.resolve_left (fun q => nomatch (show false = true from q))
      subst e
      change am_inv false 1 1 10 15 3 x y pc ls st M = _ at h
      unfold am_inv at h
      cases hy : (Nat.ble 10 y && Nat.ble y 15) with
      | true =>
        exfalso
        rw [hy] at h
        simp only [cond_true, am_jdk] at h
        split at h <;> first | (cases h; done) | (cases (am_if_inl h); done)
      | false =>
        rw [hy] at h
        simp only [cond_false] at h
        cases hk : (Nat.beq y 1 || Nat.beq y 1) with
        | false => rw [hk] at h; exact nomatch (show (none : Option am_S) = some _ from h)
        | true =>
          rw [hk] at h
          simp only [cond_true] at h
          obtain ⟨rfl, -⟩ := am_call_spec h
          rw [Bool.or_eq_true] at hk
          exact ⟨j, y, false, hop, Nat.blt_eq.mp hix, h, Or.inr (Or.inl ⟨by rcases hk with q | q <;> exact Nat.eq_of_beq_eq_true q, rfl, hd⟩)⟩
    | invokespecial j =>
      have e : n = am_len _ := hn.resolve_left (fun q => nomatch (show false = true from q))
      subst e
      change am_inv true 2 4 16 16 3 x y pc ls st M = _ at h
      unfold am_inv at h
      cases hy : (Nat.ble 16 y && Nat.ble y 16) with
      | true =>
        exfalso
        rw [hy] at h
        simp only [cond_true, am_jdk] at h
        split at h <;> first | (cases h; done) | (cases (am_if_inl h); done)
      | false =>
        rw [hy] at h
        simp only [cond_false] at h
        cases hk : (Nat.beq y 2 || Nat.beq y 4) with
        | false => rw [hk] at h; exact nomatch (show (none : Option am_S) = some _ from h)
        | true =>
          rw [hk] at h
          simp only [cond_true] at h
          obtain ⟨rfl, -⟩ := am_call_spec h
          rw [Bool.or_eq_true] at hk
          exact ⟨j, y, true, hop, Nat.blt_eq.mp hix, h, Or.inr (Or.inr ⟨hk.imp Nat.eq_of_beq_eq_true Nat.eq_of_beq_eq_true, rfl, hd⟩)⟩
    | ireturn =>
      exfalso
      simp only [am_do] at h
      split at h
      all_goals first | (cases h; done) | (cases (am_if_inl h); done)
    | lreturn =>
      exfalso
      simp only [am_do] at h
      split at h
      all_goals first | (cases h; done) | (cases (am_if_inl h); done)
    | return_ =>
      exfalso
      simp only [am_do] at h
      split at h
      all_goals first | (cases h; done) | (cases (am_if_inl h); done)
    | _ => exact nomatch (show (none : Option am_S) = some _ from h)
theorem am_stp_M {mi pc : Nat} {ls : am_Ls} {st : List Value} {M : am_Mem} {mj : Nat} {as : List Value} {pc' : Nat} {ls' : am_Ls} {rest : List Value} {M' : am_Mem} (h : am_stp mi pc ls st M = some (.inr (.inl (mj, as, pc', ls', rest, M')))) : M' = M := by
  obtain ⟨j, y, rcv, -, -, h2, -⟩ := am_stp_call h
  exact (am_call_spec h2).2.2.2.1
theorem am_ev_n (n : Nat) : ∀ {d mi pc : Nat} {ls : am_Ls} {st : List Value} {M : am_Mem} {r : Option Value} {M' : am_Mem}, am_ev n d mi pc ls st M = some (r, M') → M.2.2.2 ≤ M'.2.2.2 := by
  induction n with
  | zero => intro d mi pc ls st M r M' h; exact nomatch (show (none : am_R) = some _ from h)
  | succ n ih =>
    intro d mi pc ls st M r M' h
    rw [am_ev_S] at h
    unfold am_F at h
    cases hs : am_stp mi pc ls st M with
    | none => rw [hs] at h; exact nomatch (show (none : am_R) = some _ from h)
    | some o =>
      rw [hs] at h
      rcases o with ⟨pc1, ls1, st1, M1⟩ | ⟨⟨mj, as, pc1, ls1, rest, M1⟩ | v⟩
      · exact Nat.le_trans (am_stp_n hs) (ih h)
      · dsimp only [am_Fo] at h
        have hM1 : M1 = M := am_stp_M hs
        cases hc : am_K n d mj as M1 with
        | none => rw [hc] at h; exact absurd h (by simp)
        | some q =>
          rw [hc] at h
          simp only [Option.bind_some] at h
          cases hr : am_res (am_rt mj) q.1 rest with
          | none => rw [hr] at h; exact absurd h (by simp)
          | some st2 =>
            rw [hr] at h
            have h2 := ih h
            have h3 : M1.2.2.2 ≤ q.2.2.2.2 := by
              cases d with
              | zero => exact nomatch (show (none : am_R) = some _ from hc)
              | succ d =>
                have hc2 : am_ent mj as M1 (am_ev n d) = some q := hc
                unfold am_ent at hc2
                cases hb : Nat.ble (am_w as) (am_ml mj) with
                | false => rw [hb] at hc2; exact nomatch (show (none : am_R) = some _ from hc2)
                | true => rw [hb] at hc2; exact ih (show am_ev n d mj 0 (lv_args 0 as) [] M1 = some (q.1, q.2) from hc2)
            rw [hM1] at h3
            exact Nat.le_trans h3 h2
      · cases h; exact Nat.le_refl _
