/-! ===== one step ===== -/
theorem am_if_inl {b : Bool} {o : Option am_S} {q} (h : am_if b o = some q) : o = some q := by
  cases b with
  | true => exact h
  | false => exact nomatch (show (none : Option am_S) = some _ from h)
theorem am_call_inr {mj np n pc : Nat} {ls : am_Ls} {st : List Value} {M : am_Mem} {rcv : Bool} {ci : Nat} {q} (h : am_call mj np n pc ls st M rcv ci = some q) : ∃ u, q = .inr (.inl u) := by
  unfold am_call at h
  split at h
  · cases h
  · cases rcv with
    | true =>
      simp only [cond_true] at h
      split at h
      · unfold am_if at h
        revert h
        cases (Nat.ble (am_sum _) 8 && am_cf M.2.2.2 _ ci) with
        | true => intro h; cases h; exact ⟨_, rfl⟩
        | false => intro h; cases h
      · cases h
    | false =>
      simp only [cond_false] at h
      unfold am_if at h
      revert h
      cases Nat.ble (am_sum _) 8 with
      | true => intro h; cases h; exact ⟨_, rfl⟩
      | false => intro h; cases h
section AMK
variable {b t z L : Nat} {xs : Nat → Int32} {D : va_G} {dA : Nat → ClassId} {X : State → Prop} {mi d : Nat} {p : Program} {l : Launch} {e : Env} {R : Room} {s : State} {m : MethodId} {args : Array Value} {below : List Frame} {meth : Method} {c : Code} {Q : State → Prop} {kc ks : Nat}
variable {pc : Nat} {ls : am_Ls} {st : List Value} {M : am_Mem} {pc' : Nat} {ls' : am_Ls} {st' : List Value} {M' : am_Mem} {x y : Nat}
set_option maxHeartbeats 4000000 in
theorem am_step (C : am_Cx b t z L xs D dA X mi d kc R p s m args meth c) (hT : am_TX l b t z L xs D dA X) (hL : L < 2147483648) (hbz : b < z) (h : am_stp mi pc ls st M = some (.inl (pc', ls', st', M'))) (hp1 : M'.2.2.2 ≤ R.cells + kc) (hp2 : am_sl M'.2.2.2 ≤ R.slots + ks) (k : am_WW b t z L xs D dA mi p l e R s m args below meth c Q kc ks pc' ls' st' M') : am_WW b t z L xs D dA mi p l e R s m args below meth c Q kc ks pc ls st M := by
  unfold am_stp at h
  cases hi : am_ins mi pc with
  | none => rw [hi] at h; exact nomatch h
  | some q =>
    obtain ⟨i, n, x, y⟩ := q
    rw [hi] at h
    obtain ⟨hd, hn, hop, hix⟩ := am_ins_spec hi
    change am_do i n x y mi pc ls st M = _ at h
    cases i with
    | iadd =>
      have e : n = am_len _ := hn.resolve_left (fun q => nomatch (show false = true from q))
      subst e
      exact am_w_iadd C hd h k
    | isub =>
      have e : n = am_len _ := hn.resolve_left (fun q => nomatch (show false = true from q))
      subst e
      exact am_w_isub C hd h k
    | imul =>
      have e : n = am_len _ := hn.resolve_left (fun q => nomatch (show false = true from q))
      subst e
      exact am_w_imul C hd h k
    | iand =>
      have e : n = am_len _ := hn.resolve_left (fun q => nomatch (show false = true from q))
      subst e
      exact am_w_iand C hd h k
    | ior =>
      have e : n = am_len _ := hn.resolve_left (fun q => nomatch (show false = true from q))
      subst e
      exact am_w_ior C hd h k
    | ixor =>
      have e : n = am_len _ := hn.resolve_left (fun q => nomatch (show false = true from q))
      subst e
      exact am_w_ixor C hd h k
    | ishl =>
      have e : n = am_len _ := hn.resolve_left (fun q => nomatch (show false = true from q))
      subst e
      exact am_w_ishl C hd h k
    | ishr =>
      have e : n = am_len _ := hn.resolve_left (fun q => nomatch (show false = true from q))
      subst e
      exact am_w_ishr C hd h k
    | ladd =>
      have e : n = am_len _ := hn.resolve_left (fun q => nomatch (show false = true from q))
      subst e
      exact am_w_ladd C hd h k
    | lsub =>
      have e : n = am_len _ := hn.resolve_left (fun q => nomatch (show false = true from q))
      subst e
      exact am_w_lsub C hd h k
    | lmul =>
      have e : n = am_len _ := hn.resolve_left (fun q => nomatch (show false = true from q))
      subst e
      exact am_w_lmul C hd h k
    | land =>
      have e : n = am_len _ := hn.resolve_left (fun q => nomatch (show false = true from q))
      subst e
      exact am_w_land C hd h k
    | lor =>
      have e : n = am_len _ := hn.resolve_left (fun q => nomatch (show false = true from q))
      subst e
      exact am_w_lor C hd h k
    | idiv =>
      have e : n = am_len _ := hn.resolve_left (fun q => nomatch (show false = true from q))
      subst e
      exact am_w_idiv C hd h k
    | irem =>
      have e : n = am_len _ := hn.resolve_left (fun q => nomatch (show false = true from q))
      subst e
      exact am_w_irem C hd h k
    | ldiv =>
      have e : n = am_len _ := hn.resolve_left (fun q => nomatch (show false = true from q))
      subst e
      exact am_w_ldiv C hd h k
    | lrem =>
      have e : n = am_len _ := hn.resolve_left (fun q => nomatch (show false = true from q))
      subst e
      exact am_w_lrem C hd h k
    | lshl =>
      have e : n = am_len _ := hn.resolve_left (fun q => nomatch (show false = true from q))
      subst e
      exact am_w_lshl C hd h k
    | lcmp =>
      have e : n = am_len _ := hn.resolve_left (fun q => nomatch (show false = true from q))
      subst e
      exact am_w_lcmp C hd h k
    | i2l =>
      have e : n = am_len _ := hn.resolve_left (fun q => nomatch (show false = true from q))
      subst e
      exact am_w_i2l C hd h k
    | l2i =>
      have e : n = am_len _ := hn.resolve_left (fun q => nomatch (show false = true from q))
      subst e
      exact am_w_l2i C hd h k
    | dup =>
      have e : n = am_len _ := hn.resolve_left (fun q => nomatch (show false = true from q))
      subst e
      exact am_w_dup C hd h k
    | dup2 =>
      have e : n = am_len _ := hn.resolve_left (fun q => nomatch (show false = true from q))
      subst e
      exact am_w_dup2 C hd h k
    | pop =>
      have e : n = am_len _ := hn.resolve_left (fun q => nomatch (show false = true from q))
      subst e
      exact am_w_pop C hd h k
    | iconst v =>
      have e : n = am_len _ := hn.resolve_left (fun q => nomatch (show false = true from q))
      subst e
      exact am_w_iconst C hd h k
    | lconst v =>
      have e : n = am_len _ := hn.resolve_left (fun q => nomatch (show false = true from q))
      subst e
      exact am_w_lconst C hd h k
    | iload j =>
      have e : n = am_len _ := hn.resolve_left (fun q => nomatch (show false = true from q))
      subst e
      exact am_w_iload C hd h k
    | iload_n j =>
      have e : n = am_len _ := hn.resolve_left (fun q => nomatch (show false = true from q))
      subst e
      exact am_w_iload_n C hd h k
    | lload j =>
      have e : n = am_len _ := hn.resolve_left (fun q => nomatch (show false = true from q))
      subst e
      exact am_w_lload C hd h k
    | lload_n j =>
      have e : n = am_len _ := hn.resolve_left (fun q => nomatch (show false = true from q))
      subst e
      exact am_w_lload_n C hd h k
    | aload j =>
      have e : n = am_len _ := hn.resolve_left (fun q => nomatch (show false = true from q))
      subst e
      exact am_w_aload C hd h k
    | aload_n j =>
      have e : n = am_len _ := hn.resolve_left (fun q => nomatch (show false = true from q))
      subst e
      exact am_w_aload_n C hd h k
    | istore j =>
      have e : n = am_len _ := hn.resolve_left (fun q => nomatch (show false = true from q))
      subst e
      exact am_w_istore C hd h k
    | istore_n j =>
      have e : n = am_len _ := hn.resolve_left (fun q => nomatch (show false = true from q))
      subst e
      exact am_w_istore_n C hd h k
    | lstore j =>
      have e : n = am_len _ := hn.resolve_left (fun q => nomatch (show false = true from q))
      subst e
      exact am_w_lstore C hd h k
    | lstore_n j =>
      have e : n = am_len _ := hn.resolve_left (fun q => nomatch (show false = true from q))
      subst e
      exact am_w_lstore_n C hd h k
    | astore j =>
      have e : n = am_len _ := hn.resolve_left (fun q => nomatch (show false = true from q))
      subst e
      exact am_w_astore C hd h k
    | astore_n j =>
      have e : n = am_len _ := hn.resolve_left (fun q => nomatch (show false = true from q))
      subst e
      exact am_w_astore_n C hd h k
    | iinc j v =>
      have e : n = am_len _ := hn.resolve_left (fun q => nomatch (show false = true from q))
      subst e
      exact am_w_iinc C hd h k
    | bipush v =>
      have e : n = am_len _ := hn.resolve_left (fun q => nomatch (show false = true from q))
      subst e
      exact am_w_bipush C hd (of_decide_eq_true (Bool.and_eq_true_iff.mp hop).1) (of_decide_eq_true (Bool.and_eq_true_iff.mp hop).2) h k
    | sipush v =>
      have e : n = am_len _ := hn.resolve_left (fun q => nomatch (show false = true from q))
      subst e
      exact am_w_sipush C hd (of_decide_eq_true (Bool.and_eq_true_iff.mp hop).1) (of_decide_eq_true (Bool.and_eq_true_iff.mp hop).2) h k
    | goto o =>
      have e : n = am_len _ := hn.resolve_left (fun q => nomatch (show false = true from q))
      subst e
      exact am_w_goto C hd hop h k
    | ifCond g o =>
      have e : n = am_len _ := hn.resolve_left (fun q => nomatch (show false = true from q))
      subst e
      exact am_w_ifCond C hd hop h k
    | if_icmp g o =>
      have e : n = am_len _ := hn.resolve_left (fun q => nomatch (show false = true from q))
      subst e
      exact am_w_if_icmp C hd hop h k
    | getfield j =>
      have e : n = am_len _ := hn.resolve_left (fun q => nomatch (show false = true from q))
      subst e
      exact am_w_getfield C hd hop (Nat.blt_eq.mp hix) h k
    | putfield j =>
      have e : n = am_len _ := hn.resolve_left (fun q => nomatch (show false = true from q))
      subst e
      exact am_w_putfield C hd hop (Nat.blt_eq.mp hix) h k
    | caload =>
      have e : n = am_len _ := hn.resolve_left (fun q => nomatch (show false = true from q))
      subst e
      exact am_w_caload C hd h k
    | baload =>
      have e : n = am_len _ := hn.resolve_left (fun q => nomatch (show false = true from q))
      subst e
      exact am_w_baload C hd h k
    | laload =>
      have e : n = am_len _ := hn.resolve_left (fun q => nomatch (show false = true from q))
      subst e
      exact am_w_laload C hd h k
    | iastore =>
      have e : n = am_len _ := hn.resolve_left (fun q => nomatch (show false = true from q))
      subst e
      exact am_w_iastore C hd h k
    | castore =>
      have e : n = am_len _ := hn.resolve_left (fun q => nomatch (show false = true from q))
      subst e
      exact am_w_castore C hd h k
    | bastore =>
      have e : n = am_len _ := hn.resolve_left (fun q => nomatch (show false = true from q))
      subst e
      exact am_w_bastore C hd h k
    | lastore =>
      have e : n = am_len _ := hn.resolve_left (fun q => nomatch (show false = true from q))
      subst e
      exact am_w_lastore C hd h k
    | iaload =>
      have e : n = am_len _ := hn.resolve_left (fun q => nomatch (show false = true from q))
      subst e
      exact am_w_iaload C hd hbz h k
    | arraylength =>
      have e : n = am_len _ := hn.resolve_left (fun q => nomatch (show false = true from q))
      subst e
      exact am_w_arraylength C hd hbz h k
    | ldc j =>
      have e : n = am_len _ := hn.resolve_left (fun q => nomatch (show false = true from q))
      subst e
      exact am_w_ldc C hd hT hop (Nat.blt_eq.mp hix) h hp1 hp2 k
    | ldc_w j =>
      have e : n = am_len _ := hn.resolve_left (fun q => nomatch (show false = true from q))
      subst e
      exact am_w_ldc_w C hd hop (Nat.blt_eq.mp hix) h k
    | ldc2_w j =>
      have e : n = am_len _ := hn.resolve_left (fun q => nomatch (show false = true from q))
      subst e
      exact am_w_ldc2_w C hd hop (Nat.blt_eq.mp hix) h k
    | new j =>
      have e : n = am_len _ := hn.resolve_left (fun q => nomatch (show false = true from q))
      subst e
      exact am_w_new C hd hop (Nat.blt_eq.mp hix) h hp1 hp2 k
    | newarray g =>
      have e : n = am_len _ := hn.resolve_left (fun q => nomatch (show false = true from q))
      subst e
      exact am_w_newarray C hd hop h hp1 hp2 k
    | tableswitch dd lo hi os => exact am_w_tableswitch C hd hop h k
    | lookupswitch dd os => exact am_w_lookupswitch C hd hop h k
    | invokevirtual j =>
      have e : n = am_len _ := hn.resolve_left (fun q => nomatch (show false = true from q))
      subst e
      change am_inv true 0 0 17 99 _ x y pc ls st M = _ at h
      unfold am_inv at h
      cases hy : (Nat.ble 17 y && Nat.ble y 99) with
      | true =>
        rw [hy] at h
        rw [Bool.and_eq_true] at hy
        have hy1 := Nat.le_of_ble_eq_true hy.1
        have hy2 := Nat.le_of_ble_eq_true hy.2
        exact am_w_jdk (w := 0) C hT (by omega) hop (Nat.blt_eq.mp hix) (Or.inr (Or.inr ⟨rfl, by omega⟩)) (fun q => nomatch q) (fun q => nomatch q) (fun _ => hd) h hp1 hp2 k
      | false =>
        rw [hy] at h
        change (bif _ then _ else none) = _ at h
        cases hk : (Nat.beq y 0 || Nat.beq y 0) with
        | true =>
          rw [hk] at h
          obtain ⟨u, hu⟩ := am_call_inr (show am_call _ _ _ _ _ _ _ _ _ = _ from h)
          exact nomatch hu
        | false => rw [hk] at h; exact nomatch (show (none : Option am_S) = some _ from h)
    | invokestatic j =>
      have e : n = am_len _ := hn.resolve_left (fun q => nomatch (show false = true from q))
      subst e
      change am_inv false 1 1 10 15 _ x y pc ls st M = _ at h
      unfold am_inv at h
      cases hy : (Nat.ble 10 y && Nat.ble y 15) with
      | true =>
        rw [hy] at h
        rw [Bool.and_eq_true] at hy
        have hy1 := Nat.le_of_ble_eq_true hy.1
        have hy2 := Nat.le_of_ble_eq_true hy.2
        exact am_w_jdk (w := 1) C hT (by omega) hop (Nat.blt_eq.mp hix) (Or.inl ⟨rfl, by omega⟩) (fun _ => hd) (fun q => nomatch q) (fun q => nomatch q) h hp1 hp2 k
      | false =>
        rw [hy] at h
        change (bif _ then _ else none) = _ at h
        cases hk : (Nat.beq y 1 || Nat.beq y 1) with
        | true =>
          rw [hk] at h
          obtain ⟨u, hu⟩ := am_call_inr (show am_call _ _ _ _ _ _ _ _ _ = _ from h)
          exact nomatch hu
        | false => rw [hk] at h; exact nomatch (show (none : Option am_S) = some _ from h)
    | invokespecial j =>
      have e : n = am_len _ := hn.resolve_left (fun q => nomatch (show false = true from q))
      subst e
      change am_inv true 2 4 16 16 _ x y pc ls st M = _ at h
      unfold am_inv at h
      cases hy : (Nat.ble 16 y && Nat.ble y 16) with
      | true =>
        rw [hy] at h
        rw [Bool.and_eq_true] at hy
        have hy1 := Nat.le_of_ble_eq_true hy.1
        have hy2 := Nat.le_of_ble_eq_true hy.2
        exact am_w_jdk (w := 2) C hT (by omega) hop (Nat.blt_eq.mp hix) (Or.inr (Or.inl ⟨rfl, by omega⟩)) (fun q => nomatch q) (fun _ => hd) (fun q => nomatch q) h hp1 hp2 k
      | false =>
        rw [hy] at h
        change (bif _ then _ else none) = _ at h
        cases hk : (Nat.beq y 2 || Nat.beq y 4) with
        | true =>
          rw [hk] at h
          obtain ⟨u, hu⟩ := am_call_inr (show am_call _ _ _ _ _ _ _ _ _ = _ from h)
          exact nomatch hu
        | false => rw [hk] at h; exact nomatch (show (none : Option am_S) = some _ from h)
    | ireturn =>
      exfalso
      simp only [am_do] at h
      split at h
      all_goals first | exact nomatch (am_if_inl h) | exact nomatch h
    | lreturn =>
      exfalso
      simp only [am_do] at h
      split at h
      all_goals first | exact nomatch (am_if_inl h) | exact nomatch h
    | return_ =>
      exfalso
      simp only [am_do] at h
      split at h
      all_goals first | exact nomatch (am_if_inl h) | exact nomatch h
    | _ => exact nomatch (show (none : Option am_S) = some _ from h)
end AMK
/-- the number of cells does not fall -/
theorem am_go_n {pc : Nat} {ls : am_Ls} {st : List Value} {M : am_Mem} {pc' ls' st' M'} (h : am_go pc ls st M = some (.inl (pc', ls', st', M'))) : M' = M := by cases h; rfl
