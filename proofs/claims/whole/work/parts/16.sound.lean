/-! ===== the whole of it ===== -/
theorem am_stp_ret {mi pc : Nat} {ls : am_Ls} {st : List Value} {M : am_Mem} {v : Option Value} (h : am_stp mi pc ls st M = some (.inr (.inr v))) : am_Re mi v pc ∧ st = v.toList := by
  unfold am_stp at h
  cases hi : am_ins mi pc with
  | none => rw [hi] at h; exact nomatch h
  | some q =>
    obtain ⟨i, n, x, y⟩ := q
    rw [hi] at h
    obtain ⟨hd, hn, hop, hix⟩ := am_ins_spec hi
    change am_do i n x y mi pc ls st M = _ at h
    cases i with
    | iconst v => exact nomatch h
    | bipush v => exact nomatch h
    | sipush v => exact nomatch h
    | lconst v => exact nomatch h
    | goto o => exact nomatch h
    | ldc2_w j => exact nomatch h
    | iadd => simp only [am_do, am_i2] at h; split at h <;> first | (cases h; done) | (cases (am_if_inl h); done)
    | isub => simp only [am_do, am_i2] at h; split at h <;> first | (cases h; done) | (cases (am_if_inl h); done)
    | imul => simp only [am_do, am_i2] at h; split at h <;> first | (cases h; done) | (cases (am_if_inl h); done)
    | iand => simp only [am_do, am_i2] at h; split at h <;> first | (cases h; done) | (cases (am_if_inl h); done)
    | ior => simp only [am_do, am_i2] at h; split at h <;> first | (cases h; done) | (cases (am_if_inl h); done)
    | ixor => simp only [am_do, am_i2] at h; split at h <;> first | (cases h; done) | (cases (am_if_inl h); done)
    | ishl => simp only [am_do, am_i2] at h; split at h <;> first | (cases h; done) | (cases (am_if_inl h); done)
    | ishr => simp only [am_do, am_i2] at h; split at h <;> first | (cases h; done) | (cases (am_if_inl h); done)
    | ladd => simp only [am_do, am_l2] at h; split at h <;> first | (cases h; done) | (cases (am_if_inl h); done)
    | lsub => simp only [am_do, am_l2] at h; split at h <;> first | (cases h; done) | (cases (am_if_inl h); done)
    | lmul => simp only [am_do, am_l2] at h; split at h <;> first | (cases h; done) | (cases (am_if_inl h); done)
    | land => simp only [am_do, am_l2] at h; split at h <;> first | (cases h; done) | (cases (am_if_inl h); done)
    | lor => simp only [am_do, am_l2] at h; split at h <;> first | (cases h; done) | (cases (am_if_inl h); done)
    | idiv => simp only [am_do] at h; split at h <;> first | (cases h; done) | (cases (am_if_inl h); done)
    | irem => simp only [am_do] at h; split at h <;> first | (cases h; done) | (cases (am_if_inl h); done)
    | ldiv => simp only [am_do] at h; split at h <;> first | (cases h; done) | (cases (am_if_inl h); done)
    | lrem => simp only [am_do] at h; split at h <;> first | (cases h; done) | (cases (am_if_inl h); done)
    | lshl => simp only [am_do] at h; split at h <;> first | (cases h; done) | (cases (am_if_inl h); done)
    | lcmp => simp only [am_do] at h; split at h <;> first | (cases h; done) | (cases (am_if_inl h); done)
    | i2l => simp only [am_do] at h; split at h <;> first | (cases h; done) | (cases (am_if_inl h); done)
    | l2i => simp only [am_do] at h; split at h <;> first | (cases h; done) | (cases (am_if_inl h); done)
    | dup => simp only [am_do] at h; split at h <;> first | (cases h; done) | (cases (am_if_inl h); done)
    | dup2 => simp only [am_do] at h; split at h <;> first | (cases h; done) | (cases (am_if_inl h); done)
    | pop => simp only [am_do] at h; split at h <;> first | (cases h; done) | (cases (am_if_inl h); done)
    | arraylength => simp only [am_do] at h; split at h <;> first | (cases h; done) | (cases (am_if_inl h); done)
    | iaload => simp only [am_do] at h; split at h <;> first | (cases h; done) | (cases (am_if_inl h); done)
    | caload => simp only [am_do] at h; split at h <;> first | (cases h; done) | (cases (am_if_inl h); done)
    | baload => simp only [am_do] at h; split at h <;> first | (cases h; done) | (cases (am_if_inl h); done)
    | laload => simp only [am_do] at h; split at h <;> first | (cases h; done) | (cases (am_if_inl h); done)
    | iastore => simp only [am_do] at h; split at h <;> first | (cases h; done) | (cases (am_if_inl h); done)
    | castore => simp only [am_do] at h; split at h <;> first | (cases h; done) | (cases (am_if_inl h); done)
    | bastore => simp only [am_do] at h; split at h <;> first | (cases h; done) | (cases (am_if_inl h); done)
    | lastore => simp only [am_do] at h; split at h <;> first | (cases h; done) | (cases (am_if_inl h); done)
    | iload j => simp only [am_do, am_ld] at h; split at h <;> first | (cases h; done) | (cases (am_if_inl h); done)
    | iload_n j => simp only [am_do, am_ld] at h; split at h <;> first | (cases h; done) | (cases (am_if_inl h); done)
    | lload j => simp only [am_do, am_ld] at h; split at h <;> first | (cases h; done) | (cases (am_if_inl h); done)
    | lload_n j => simp only [am_do, am_ld] at h; split at h <;> first | (cases h; done) | (cases (am_if_inl h); done)
    | aload j => simp only [am_do, am_ld] at h; split at h <;> first | (cases h; done) | (cases (am_if_inl h); done)
    | aload_n j => simp only [am_do, am_ld] at h; split at h <;> first | (cases h; done) | (cases (am_if_inl h); done)
    | istore j => simp only [am_do, am_sv] at h; split at h <;> first | (cases h; done) | (cases (am_if_inl h); done)
    | istore_n j => simp only [am_do, am_sv] at h; split at h <;> first | (cases h; done) | (cases (am_if_inl h); done)
    | lstore j => simp only [am_do, am_sv] at h; split at h <;> first | (cases h; done) | (cases (am_if_inl h); done)
    | lstore_n j => simp only [am_do, am_sv] at h; split at h <;> first | (cases h; done) | (cases (am_if_inl h); done)
    | astore j => simp only [am_do, am_sv] at h; split at h <;> first | (cases h; done) | (cases (am_if_inl h); done)
    | astore_n j => simp only [am_do, am_sv] at h; split at h <;> first | (cases h; done) | (cases (am_if_inl h); done)
    | iinc j v => simp only [am_do] at h; split at h <;> first | (cases h; done) | (cases (am_if_inl h); done)
    | ifCond g o => simp only [am_do] at h; split at h <;> first | (cases h; done) | (cases (am_if_inl h); done)
    | if_icmp g o => simp only [am_do] at h; split at h <;> first | (cases h; done) | (cases (am_if_inl h); done)
    | tableswitch dd lo hi os => simp only [am_do] at h; split at h <;> first | (cases h; done) | (cases (am_if_inl h); done)
    | lookupswitch dd os => simp only [am_do] at h; split at h <;> first | (cases h; done) | (cases (am_if_inl h); done)
    | newarray g => simp only [am_do] at h; split at h <;> first | (cases h; done) | (cases (am_if_inl h); done)
    | getfield j => simp only [am_do, am_get] at h; split at h <;> first | (cases h; done) | (cases (am_if_inl h); done)
    | putfield j =>
      simp only [am_do] at h
      cases hb : ((am_fty x y).2 && !(Nat.beq (am_mk mi) 2 && Nat.beq (am_mc mi) x)) with
      | true => rw [hb] at h; exact nomatch (show (none : Option am_S) = some _ from h)
      | false =>
        rw [hb] at h
        change am_put mi n pc x y ls st M = _ at h
        simp only [am_put] at h
        split at h <;> first | (cases h; done) | (cases (am_if_inl h); done)
    | ldc j =>
      simp only [am_do] at h
      cases hb : Nat.beq y 0 with
      | true => rw [hb] at h; exact nomatch (show am_go _ _ _ _ = _ from h)
      | false => rw [hb] at h; exact nomatch (show am_go _ _ _ _ = _ from h)
    | ldc_w j => exact nomatch (am_if_inl (show am_if (Nat.beq y 0) _ = _ from h))
    | new j => exact nomatch (am_if_inl (show am_if _ _ = _ from h))
    | invokevirtual j =>
      exfalso
      change am_inv true 0 0 17 99 n x y pc ls st M = _ at h
      unfold am_inv at h
      cases hy : (Nat.ble 17 y && Nat.ble y 99) with
      | true =>
        rw [hy] at h
        simp only [cond_true, am_jdk] at h
        split at h <;> first | (cases h; done) | (cases (am_if_inl h); done)
      | false =>
        rw [hy] at h
        simp only [cond_false] at h
        obtain ⟨u, hu⟩ := am_call_inr (am_if_inl (show am_if _ _ = _ from h))
        exact nomatch hu
    | invokestatic j =>
      exfalso
      change am_inv false 1 1 10 15 n x y pc ls st M = _ at h
      unfold am_inv at h
      cases hy : (Nat.ble 10 y && Nat.ble y 15) with
      | true =>
        rw [hy] at h
        simp only [cond_true, am_jdk] at h
        split at h <;> first | (cases h; done) | (cases (am_if_inl h); done)
      | false =>
        rw [hy] at h
        simp only [cond_false] at h
        obtain ⟨u, hu⟩ := am_call_inr (am_if_inl (show am_if _ _ = _ from h))
        exact nomatch hu
    | invokespecial j =>
      exfalso
      change am_inv true 2 4 16 16 n x y pc ls st M = _ at h
      unfold am_inv at h
      cases hy : (Nat.ble 16 y && Nat.ble y 16) with
      | true =>
        rw [hy] at h
        simp only [cond_true, am_jdk] at h
        split at h <;> first | (cases h; done) | (cases (am_if_inl h); done)
      | false =>
        rw [hy] at h
        simp only [cond_false] at h
        obtain ⟨u, hu⟩ := am_call_inr (am_if_inl (show am_if _ _ = _ from h))
        exact nomatch hu
    | ireturn =>
      have e : n = am_len _ := hn.resolve_left (fun q => nomatch (show false = true from q))
      subst e
      simp only [am_do] at h
      split at h
      · rename_i hrt
        cases h
        exact ⟨⟨hd, Or.inl hrt⟩, rfl⟩
      · rename_i u hrt
        cases hz : am_zb u with
        | false => rw [hz] at h; exact nomatch (show (none : Option am_S) = some _ from h)
        | true =>
          rw [hz] at h
          cases (show some _ = some _ from h)
          exact ⟨⟨hd, Or.inr ⟨hrt, hz⟩⟩, rfl⟩
      · exact nomatch h
    | lreturn =>
      have e : n = am_len _ := hn.resolve_left (fun q => nomatch (show false = true from q))
      subst e
      simp only [am_do] at h
      split at h
      · rename_i hrt
        cases h
        exact ⟨⟨hd, hrt⟩, rfl⟩
      · exact nomatch h
    | return_ =>
      have e : n = am_len _ := hn.resolve_left (fun q => nomatch (show false = true from q))
      subst e
      simp only [am_do] at h
      split at h
      · rename_i hrt
        cases h
        exact ⟨⟨hd, hrt⟩, rfl⟩
      · exact nomatch h
    | _ => exact nomatch (show (none : Option am_S) = some _ from h)
theorem am_pk_mem {ls : am_Ls} : ∀ (ks : List Nat) {q : Nat × Value}, q ∈ am_pk ls ks → am_find ls q.1 = some q.2
  | [], q, h => by cases h
  | k :: r, q, h => by
    unfold am_pk at h
    split at h
    · rename_i v hv
      rcases List.mem_cons.mp h with rfl | h
      · exact hv
      · exact am_pk_mem r h
    · exact am_pk_mem r h
theorem am_nm_has {b t z mi pc nL : Nat} {lsC : Array Slot} {ls : am_Ls} (hl : lv_has lsC nL (am_cm b t z ls)) : lv_has lsC nL (am_cm b t z (am_nm mi pc ls)) := by
  unfold am_nm
  split
  · exact hl
  · refine ⟨hl.1, hl.2.1, fun q hq => ?_⟩
    obtain ⟨q0, h1, rfl⟩ := List.mem_map.mp hq
    exact am_loc hl (am_pk_mem _ h1)
section AMZ
variable {b t z L : Nat} {xs : Nat → Int32} {D : va_G} {dA : Nat → ClassId} {X : State → Prop} {l : Launch}
/-- n steps, on the machine -/
def am_Sn (l : Launch) (b t z L : Nat) (xs : Nat → Int32) (D : va_G) (dA : Nat → ClassId) (X : State → Prop) (n : Nat) : Prop :=
  ∀ (d mi pc : Nat) (ls : am_Ls) (st : List Value) (M : am_Mem) (r : Option Value) (M' : am_Mem), am_ev n d mi pc ls st M = some (r, M') →
    ∀ (p : Program) (e : Env) (R : Room) (s : State) (m : MethodId) (args : Array Value) (below : List Frame) (meth : Method) (c : Code) (Q : State → Prop) (kc ks : Nat), am_Cx b t z L xs D dA X mi d kc R p s m args meth c → M'.2.2.2 ≤ R.cells + kc → am_sl M'.2.2.2 ≤ R.slots + ks →
      (∀ (pc2 : Nat) (lsC : Array Slot) (H : Heap) (locs : List Loc) (cells slots : Nat), am_Rp b t z L xs D dA M' H → va_S (am_A z) s.heap H locs → lsC.size = am_ml mi → cells + kc = M'.2.2.2 → slots + ks = am_sl M'.2.2.2 → am_Re mi r pc2 → W p l e R s m args below meth c H locs cells slots Q (F0 m pc2 lsC r.toList)) →
      am_WW b t z L xs D dA mi p l e R s m args below meth c Q kc ks pc ls st M
theorem am_met {n d mj : Nat} {as : List Value} {M : am_Mem} {r : Option Value} {M1 : am_Mem} (ih : am_Sn l b t z L xs D dA X n) (h : am_ev n d mj 0 (lv_args 0 as) [] M = some (r, M1)) (hw : am_w as ≤ am_ml mj) : am_Mt l b t z L xs D dA X d mj as M r M1 := by
  obtain ⟨c1, c2, c3, c4, c5, c6, c7, c8⟩ := am_chkM_spec mj
  have hn := am_ev_n n h
  have hm := am_sl_mono hn
  refine va_MetF (cc := (am_mr mj).2.1) (maxL := am_ml mj) (ret := am_rt mj) c1 rfl ?_
  intro p e s m args below meth c s₁ B hml hv
  obtain ⟨rfl, hsz, hRp, hSt⟩ := hv
  have hts := atoms_spec (ws := am_wl mj) B.pre
  have hown : s.vm.findClass (am_mr mj).1.cls = some m.cls := findClass_of_methodNamed B.named
  have hnm : meth.name = (am_mr mj).1.name := (name_of_methodNamed B.named B.method).1
  have C : am_Cx b t z L xs D dA X mj d M.2.2.2 (am_rm d (M1.2.2.2 - M.2.2.2) (am_sl M1.2.2.2 - am_sl M.2.2.2)) p s m (as.map (am_cv b t z)).toArray meth c :=
    ⟨B.exec, B.bytes, hml, by rw [c5]; exact hown, fun w hw => hts w (List.mem_cons_of_mem _ hw), hSt, B.returns, B.notSynchronized, fun hk => by rw [hnm]; exact c6 hk, Nat.le_refl _, Nat.le_refl _, hsz, hRp.1⟩
  have hx := B.exec
  have hb := B.bytes
  have hr := B.returns
  have hlocks := B.notSynchronized
  have hl := lv_entry (as.map (am_cv b t z)) (n := am_ml mj) (by rw [am_lg_sl]; exact hw)
  rw [lg_entry_eq]
  rw [← am_lv_args] at hl
  refine ih d mj 0 (lv_args 0 as) [] M r M1 h p e (am_rm d (M1.2.2.2 - M.2.2.2) (am_sl M1.2.2.2 - am_sl M.2.2.2)) s m (as.map (am_cv b t z)).toArray below meth c _ M.2.2.2 (am_sl M.2.2.2) C (by show M1.2.2.2 ≤ M1.2.2.2 - M.2.2.2 + M.2.2.2; omega) (by show am_sl M1.2.2.2 ≤ am_sl M1.2.2.2 - am_sl M.2.2.2 + am_sl M.2.2.2; omega) ?_ _ s.heap [] 0 0 hRp va_S.rf hl (Nat.zero_add _) (Nat.zero_add _)
  intro pc2 lsC H locs cells slots hP hS hls hc hs hre
  have ec : M1.2.2.2 - M.2.2.2 = cells := by omega
  have es : am_sl M1.2.2.2 - am_sl M.2.2.2 = slots := by omega
  rw [ec, es]
  match r, hre with
  | some (.int v), hre =>
    obtain ⟨hd, hrt | ⟨hrt, hz⟩⟩ := hre
    · exact W.iret hx hb (hr.trans hrt) (fun u hu hW => ⟨⟨v, (), rfl, rfl, by show am_Rp b t z L xs D dA M1 u.heap; rw [hu]; exact hP⟩, hS.F hu⟩) hS.2.2 hd hlocks
    · exact W.zret hx hb (hr.trans hrt) (by rcases am_zb_spec hz with rfl | rfl <;> rfl) (fun u hu hW => ⟨⟨v, (), rfl, rfl, by show am_Rp b t z L xs D dA M1 u.heap; rw [hu]; exact hP⟩, hS.F hu⟩) hS.2.2 hd hlocks
  | some (.long v), hre => exact W.lret hx hb (hr.trans hre.2) (fun u hu hW => ⟨⟨v, (), rfl, rfl, by show am_Rp b t z L xs D dA M1 u.heap; rw [hu]; exact hP⟩, hS.F hu⟩) hS.2.2 hre.1 hlocks
  | none, hre => exact W.vret hx hb (hr.trans hre.2) (fun u hu hW => ⟨⟨(), rfl, trivial, by show am_Rp b t z L xs D dA M1 u.heap; rw [hu]; exact hP⟩, hS.F hu⟩) hS.2.2 hre.1 hlocks
theorem am_sound (hT : am_TX l b t z L xs D dA X) (hX : am_XX z X) (hL : L < 2147483648) (hbz : b < z) (n : Nat) : am_Sn l b t z L xs D dA X n := by
  induction n with
  | zero => intro d mi pc ls st M r M' h; exact nomatch (show (none : am_R) = some _ from h)
  | succ n ih =>
    intro d mi pc ls st M r M' h p e R s m args below meth c Q kc ks C hp1 hp2 kret
    rw [am_ev_S] at h
    unfold am_F at h
    cases hs : am_stp mi pc ls st M with
    | none => rw [hs] at h; exact nomatch (show (none : am_R) = some _ from h)
    | some o =>
      rw [hs] at h
      rcases o with ⟨pc1, ls1, st1, M1⟩ | ⟨⟨mj, as, pc1, ls1, rest, M1⟩ | v⟩
      · have h1 : am_ev n d mi pc1 (am_nm mi pc1 ls1) st1 M1 = some (r, M') := h
        have hn := am_ev_n n h1
        have hm := am_sl_mono hn
        exact am_step C hT hL hbz hs (by omega) (by omega) (fun lsC H locs cells slots hP hS hl hc hs => ih d mi pc1 (am_nm mi pc1 ls1) st1 M1 r M' h1 p e R s m args below meth c Q kc ks C hp1 hp2 kret lsC H locs cells slots hP hS (am_nm_has hl) hc hs)
      · dsimp only [am_Fo] at h
        have hM1 : M1 = M := am_stp_M hs
        subst hM1
        cases hc : am_K n d mj as M1 with
        | none => rw [hc] at h; exact absurd h (by simp)
        | some q =>
          obtain ⟨rq, Mq⟩ := q
          rw [hc] at h
          simp only [Option.bind_some] at h
          cases hr : am_res (am_rt mj) rq rest with
          | none => rw [hr] at h; exact absurd h (by simp)
          | some st2 =>
            rw [hr] at h
            have h1 : am_ev n d mi pc1 (am_nm mi pc1 ls1) st2 Mq = some (r, M') := h
            cases d with
            | zero => exact nomatch (show (none : am_R) = some _ from hc)
            | succ d =>
              have hc2 : am_ent mj as M1 (am_ev n d) = some (rq, Mq) := hc
              unfold am_ent at hc2
              cases hb : Nat.ble (am_w as) (am_ml mj) with
              | false => rw [hb] at hc2; exact nomatch (show (none : am_R) = some _ from hc2)
              | true =>
                rw [hb] at hc2
                have hc3 : am_ev n d mj 0 (lv_args 0 as) [] M1 = some (rq, Mq) := hc2
                have hn := am_ev_n n h1
                have hm := am_sl_mono hn
                exact am_callW C hX hbz hs (am_met ih hc3 (Nat.le_of_ble_eq_true hb)) hr (am_ev_n n hc3) (by omega) (by omega) (fun lsC H locs cells slots hP hS hl hc hs => ih (d + 1) mi pc1 (am_nm mi pc1 ls1) st2 Mq r M' h1 p e R s m args below meth c Q kc ks C hp1 hp2 kret lsC H locs cells slots hP hS (am_nm_has hl) hc hs)
      · cases (show some (v, M) = some (r, M') from h)
        obtain ⟨hre, hst⟩ := am_stp_ret hs
        intro lsC H locs cells slots hP hS hl hc hsl
        have hst2 : st.map (am_cv b t z) = r.toList := by
          rw [hst]
          match r, hre with
          | some (.int u), _ => rfl
          | some (.long u), _ => rfl
          | none, _ => rfl
        rw [hst2]
        exact kret pc lsC H locs cells slots hP hS hl.1 hc hsl hre
end AMZ
