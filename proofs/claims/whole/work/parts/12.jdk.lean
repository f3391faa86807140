/-! ===== the JDK's own, done at once ===== -/
theorem am_ml_spec {mc j x y : Nat} (h : am_has4 am_ML (mc * 100000 + j) x y = true) (hj : j < 100000) : (10 ≤ y → Cond.methodLink (am_on mc) j (am_jn y) ∈ am_TB) ∧
    (y < 10 → y ≠ 4 → Cond.methodLink (am_on mc) j (am_mr x).1 ∈ am_TB ∧ am_mk x = y) ∧ (y = 4 → am_mk x = 2 ∧ ∃ q ∈ am_ML, q.2.2.1 = 4 ∧ am_on (q.1 / 100000) = am_on mc ∧ q.1 % 100000 = j ∧ q.2.1 = x) := by
  obtain ⟨q, h1, h2, h3, h4⟩ := am_has4_spec h
  have h5 := List.all_eq_true.mp am_L_ok q h1
  unfold am_chkL at h5
  rw [h2, h3, h4, (am_key hj).1, (am_key hj).2] at h5
  refine ⟨fun hy => ?_, fun hy hy4 => ?_, fun hy4 => ?_⟩
  · have e : Nat.ble 10 y = true := Nat.ble_eq.mpr hy
    rw [e] at h5
    exact am_wd_ok h5
  · have e : Nat.ble 10 y = false := by
      cases hb : Nat.ble 10 y with
      | false => rfl
      | true => have := Nat.le_of_ble_eq_true hb; omega
    have e2 : Nat.beq y 4 = false := by
      cases hb : Nat.beq y 4 with
      | false => rfl
      | true => exact absurd (Nat.eq_of_beq_eq_true hb) hy4
    rw [e, e2] at h5
    change (am_wd _ _ && _) = true at h5
    rw [Bool.and_eq_true] at h5
    exact ⟨am_wd_ok h5.1, Nat.eq_of_beq_eq_true h5.2⟩
  · subst hy4
    change (_ && _) = true at h5
    rw [Bool.and_eq_true] at h5
    exact ⟨Nat.eq_of_beq_eq_true h5.2, q, h1, h4, by rw [h2, (am_key hj).1], by rw [h2, (am_key hj).2], h3⟩
theorem am_jw_at {i : Nat} {q : Nat × Cond} (h : am_jw[i]? = some q) : q.2 ∈ am_TB := am_wd_ok (List.all_eq_true.mp am_jw_ok q (List.mem_of_getElem? h))
theorem am_sum_cv (b t z : Nat) (st : List Value) : ((st.map (am_cv b t z)).map fun v => v.category).sum = am_sum st := by
  unfold am_sum
  rw [List.map_map]
  congr 1
  apply List.map_congr_left
  intro v _
  exact am_cv_cat b t z v
section AMJ
variable {b t z L : Nat} {xs : Nat → Int32} {D : va_G} {dA : Nat → ClassId} {X : State → Prop} {mi d : Nat} {p : Program} {l : Launch} {e : Env} {R : Room} {s : State} {m : MethodId} {args : Array Value} {below : List Frame} {meth : Method} {c : Code} {Q : State → Prop} {kc ks : Nat}
variable {pc : Nat} {ls : am_Ls} {st : List Value} {M : am_Mem} {pc' : Nat} {ls' : am_Ls} {st' : List Value} {M' : am_Mem} {x y : Nat}
theorem am_w_jdk (C : am_Cx b t z L xs D dA X mi d kc R p s m args meth c) {j w : Nat} (hT : am_TX l b t z L xs D dA X) (hy : 10 ≤ y) (h1 : am_has4 am_ML (am_mc mi * 100000 + j) x y = true) (h2 : j < 100000) (hw : (w = 1 ∧ y < 16) ∨ (w = 2 ∧ y = 16) ∨ (w = 0 ∧ 17 ≤ y)) (hd : w = 1 → decode (am_mr mi).2.1 pc = .ok (.invokestatic j, 3)) (hd2 : w = 2 → decode (am_mr mi).2.1 pc = .ok (.invokespecial j, 3)) (hd3 : w = 0 → decode (am_mr mi).2.1 pc = .ok (.invokevirtual j, 3)) (h : am_jdk y 3 pc ls st M = some (.inl (pc', ls', st', M'))) (hp1 : M'.2.2.2 ≤ R.cells + kc) (hp2 : am_sl M'.2.2.2 ≤ R.slots + ks) (k : am_WW b t z L xs D dA mi p l e R s m args below meth c Q kc ks pc' ls' st' M') : am_WW b t z L xs D dA mi p l e R s m args below meth c Q kc ks pc ls st M := by
  have C0 := C
  obtain ⟨hx, hb, hml, hown, hts, hSt, hr, hlk, hin, hfr, hlo, hz, hk3⟩ := C
  have hl1 := (am_ml_spec h1 h2).1 hy
  simp only [am_jdk] at h
  split at h
  · rename_i v u st1
    have hl1 : (Cond.methodLink (am_on (am_mc mi)) j Lib.Math.max.name).before args s = true := hts _ hl1
    cases hcf : Nat.ble (am_sum st1) 8 with
    | false => rw [hcf] at h; exact nomatch (show (none : Option am_S) = some _ from h)
    | true =>
      rw [hcf] at h
      change am_go _ _ _ _ = _ at h
      cases h
      have hsm := Nat.le_of_ble_eq_true hcf
      intro lsC H locs cells slots hP hS hl hc hs
      exact va_mmax hx hb (hml.trans hl.1.symm) hown hl1 (hts _ (am_jw_at (i := 1) rfl)) (hts _ (am_jw_at (i := 2) rfl)) (hts _ (am_jw_at (i := 0) rfl)) (by omega) (by rw [am_sum_cv]; omega) (by omega) (by omega) (hd (by omega)) (k lsC H locs cells slots hP hS hl hc hs)
  · rename_i v u st1
    have hl1 : (Cond.methodLink (am_on (am_mc mi)) j Lib.Math.min.name).before args s = true := hts _ hl1
    cases hcf : Nat.ble (am_sum st1) 8 with
    | false => rw [hcf] at h; exact nomatch (show (none : Option am_S) = some _ from h)
    | true =>
      rw [hcf] at h
      change am_go _ _ _ _ = _ at h
      cases h
      have hsm := Nat.le_of_ble_eq_true hcf
      intro lsC H locs cells slots hP hS hl hc hs
      exact va_mmin hx hb (hml.trans hl.1.symm) hown hl1 (hts _ (am_jw_at (i := 4) rfl)) (hts _ (am_jw_at (i := 2) rfl)) (hts _ (am_jw_at (i := 3) rfl)) (by omega) (by rw [am_sum_cv]; omega) (by omega) (by omega) (hd (by omega)) (k lsC H locs cells slots hP hS hl hc hs)
  · rename_i v st1
    have hl1 : (Cond.methodLink (am_on (am_mc mi)) j Lib.Math.abs.name).before args s = true := hts _ hl1
    cases hcf : Nat.ble (am_sum st1) 8 with
    | false => rw [hcf] at h; exact nomatch (show (none : Option am_S) = some _ from h)
    | true =>
      rw [hcf] at h
      change am_go _ _ _ _ = _ at h
      cases h
      have hsm := Nat.le_of_ble_eq_true hcf
      intro lsC H locs cells slots hP hS hl hc hs
      exact va_mabs hx hb (hml.trans hl.1.symm) hown hl1 (hts _ (am_jw_at (i := 6) rfl)) (hts _ (am_jw_at (i := 2) rfl)) (hts _ (am_jw_at (i := 5) rfl)) (by omega) (by rw [am_sum_cv]; omega) (by omega) (by omega) (hd (by omega)) (k lsC H locs cells slots hP hS hl hc hs)
  · rename_i n dp a sp a0 st1
    have hl1 : (Cond.methodLink (am_on (am_mc mi)) j arraycopyName).before args s = true := hts _ hl1
    cases hcf : (Nat.ble (am_sum st1) 8 && am_cy M.2.2.2 a0 sp a dp n) with
    | false => rw [hcf] at h; exact nomatch (show (none : Option am_S) = some _ from h)
    | true =>
      rw [hcf] at h
      change am_go _ _ _ _ = _ at h
      cases h
      unfold am_cy at hcf
      simp only [Bool.and_eq_true, decide_eq_true_eq] at hcf
      obtain ⟨c0, ⟨⟨⟨⟨⟨⟨⟨c1, c2⟩, c3⟩, c4⟩, c5⟩, c6⟩, c7⟩, c8⟩, c9⟩ := hcf
      have hsm := Nat.le_of_ble_eq_true c0
      have c1 := Nat.blt_eq.mp c1
      have c2 := Nat.blt_eq.mp c2
      have c3 : (am_kd a).1 = 1 := Nat.eq_of_beq_eq_true c3
      have c4 : (am_kd a0).1 = 1 := Nat.eq_of_beq_eq_true c4
      have ea : am_kd a = (1, (am_kd a).2) := by rw [← c3]
      have ea0 : am_kd a0 = (1, (am_kd a0).2) := by rw [← c4]
      have h3 : 3 ≤ a := am_kd3 ea (by show 1 < 5; decide)
      have h30 : 3 ≤ a0 := am_kd3 ea0 (by show 1 < 5; decide)
      intro lsC H locs cells slots hP hS hl hc hs
      have he := am_ws_get (b := b) (t := t) (z := z) (dA := dA) (M := M) h3 c1
      have he0 := am_ws_get (b := b) (t := t) (z := z) (dA := dA) (M := M) h30 c2
      rw [am_en_I ea (by decide) (by decide)] at he
      rw [am_en_I ea0 (by decide) (by decide)] at he0
      have hset : (am_ws b t z dA M).set (a - 3) (z + (a - 3), .inl (dA 1, (am_kd a).2, .inl (va_cpy (M.1 a0) (M.1 a) sp.toNatClampNeg dp.toNatClampNeg n.toNatClampNeg))) = am_ws b t z dA (am_cp M.1 a0 sp.toNatClampNeg a dp.toNatClampNeg n.toNatClampNeg, M.2.1, M.2.2.1, M.2.2.2) := by
        rw [am_ws_set (M := M) (M' := (am_cp M.1 a0 sp.toNatClampNeg a dp.toNatClampNeg n.toNatClampNeg, M.2.1, M.2.2.1, M.2.2.2)) h3 c1 rfl (fun q hq => am_en_eq (by exact am_cp_ne _ _ _ _ _ _ hq) rfl rfl), am_en_I ea (by decide) (by decide)]
        have e : am_cp M.1 a0 sp.toNatClampNeg a dp.toNatClampNeg n.toNatClampNeg a = va_cpy (M.1 a0) (M.1 a) sp.toNatClampNeg dp.toNatClampNeg n.toNatClampNeg := by
          funext q; simp [am_cp]
        show _ = List.set _ _ (z + (a - 3), Sum.inl (dA 1, (am_kd a).2, Sum.inl (am_cp M.1 a0 sp.toNatClampNeg a dp.toNatClampNeg n.toNatClampNeg a)))
        rw [e]
      have hnf : nativeFrameWords "java/lang/System" "arraycopy" 5 = 7 := by decide +kernel
      simp only [List.map_cons, am_cvr h3, am_cvr h30]
      refine va_copyi hx hb (hml.trans hl.1.symm) hown hl1 (hts _ (am_jw_at (i := 11) rfl)) (hts _ (am_jw_at (i := 12) rfl)) (hts _ (am_jw_at (i := 13) rfl)) hSt.1 hP.2.1 (am_ws_D b t z dA M) hS (a0 - 3) (a - 3) 0 0 (ty := .int) he0 he rfl rfl rfl (Int32.not_lt.mpr c5) (Int32.not_lt.mpr c6) (Int32.not_lt.mpr c7) c8 c9 (fun i _ => rfl) (by omega) (by rw [am_sum_cv, hnf]; omega) (hd (by omega)) (fun H1 locs1 hP1 _ hS1 => ?_)
      rw [hset] at hP1
      exact k lsC H1 locs1 cells slots ⟨hP.1, hP1, fun j hj => (congrFun (am_cp_ne M.1 a0 _ a _ _ (Nat.ne_of_lt (Nat.lt_of_lt_of_le (by decide : 1 < 3) h3))) j).trans (hP.2.2.1 j hj), hP.2.2.2⟩ hS1 hl hc hs
  · rename_i v u st1
    have hl1 : (Cond.methodLink (am_on (am_mc mi)) j Lib.MathLoose.max_long.x).before args s = true := hts _ hl1
    cases hcf : Nat.ble (am_sum st1) 8 with
    | false => rw [hcf] at h; exact nomatch (show (none : Option am_S) = some _ from h)
    | true =>
      rw [hcf] at h
      change am_go _ _ _ _ = _ at h
      cases h
      have hsm := Nat.le_of_ble_eq_true hcf
      intro lsC H locs cells slots hP hS hl hc hs
      exact va_mmax_long hx hb (hml.trans hl.1.symm) hown hl1 (hts _ (am_jw_at (i := 8) rfl)) (hts _ (am_jw_at (i := 2) rfl)) (hts _ (am_jw_at (i := 7) rfl)) (by omega) (by rw [am_sum_cv]; omega) (by omega) (by omega) (hd (by omega)) (k lsC H locs cells slots hP hS hl hc hs)
  · rename_i v u st1
    have hl1 : (Cond.methodLink (am_on (am_mc mi)) j Lib.MathLoose.min_long.x).before args s = true := hts _ hl1
    cases hcf : Nat.ble (am_sum st1) 8 with
    | false => rw [hcf] at h; exact nomatch (show (none : Option am_S) = some _ from h)
    | true =>
      rw [hcf] at h
      change am_go _ _ _ _ = _ at h
      cases h
      have hsm := Nat.le_of_ble_eq_true hcf
      intro lsC H locs cells slots hP hS hl hc hs
      exact va_mmin_long hx hb (hml.trans hl.1.symm) hown hl1 (hts _ (am_jw_at (i := 10) rfl)) (hts _ (am_jw_at (i := 2) rfl)) (hts _ (am_jw_at (i := 9) rfl)) (by omega) (by rw [am_sum_cv]; omega) (by omega) (by omega) (hd (by omega)) (k lsC H locs cells slots hP hS hl hc hs)
  · rename_i a st1
    have hl1 : (Cond.methodLink (am_on (am_mc mi)) j objectInit).before args s = true := hts _ hl1
    cases hcf : (Nat.ble (am_sum st1) 8 && Nat.beq (am_kd a).1 0) with
    | false => rw [hcf] at h; exact nomatch (show (none : Option am_S) = some _ from h)
    | true =>
      rw [hcf] at h
      change am_go _ _ _ _ = _ at h
      cases h
      rw [Bool.and_eq_true] at hcf
      have h3 : 3 ≤ a := am_kd3 (c := a) rfl (by have := Nat.eq_of_beq_eq_true hcf.2; omega)
      have hsm := Nat.le_of_ble_eq_true hcf.1
      intro lsC H locs cells slots hP hS hl hc hs
      rw [List.map_cons, am_cvr h3]
      exact W.objInit hx hb hown hl1 (hts _ (am_jw_at (i := 14) rfl)) (hts _ (am_jw_at (i := 15) rfl)) rfl (hl.1.trans hml.symm) rfl (hd2 (by omega)) (by omega) (by show 2 * 0 + _ + 12 ≤ _; rw [am_sum_cv]; omega) (k lsC H locs cells slots hP hS hl hc hs)
  · rename_i st1
    cases hcf : Nat.ble (am_sum st1) 4 with
    | false => rw [hcf] at h; exact nomatch (show (none : Option am_S) = some _ from h)
    | true =>
      rw [hcf] at h
      change am_go _ _ _ _ = _ at h
      cases h
      have hsm := Nat.le_of_ble_eq_true hcf
      intro lsC H locs cells slots hP hS hl hc hs
      exact (hT mi d kc p e R s m args below meth c H locs cells slots Q lsC pc _ C0 hS hl.1 (by omega) (by omega)).2.1 j (by rw [am_sum_cv]; exact hsm) hl1 (hd3 (by omega)) (k lsC H locs cells slots hP hS hl hc hs)
  · rename_i i st1
    cases hcf : (Nat.ble (am_sum st1) 4 && am_ok i am_str.length) with
    | false => rw [hcf] at h; exact nomatch (show (none : Option am_S) = some _ from h)
    | true =>
      rw [hcf] at h
      change am_go _ _ _ _ = _ at h
      cases h
      rw [Bool.and_eq_true] at hcf
      have hsm := Nat.le_of_ble_eq_true hcf.1
      intro lsC H locs cells slots hP hS hl hc hs
      exact (hT mi d kc p e R s m args below meth c H locs cells slots Q lsC pc _ C0 hS hl.1 (by omega) (by omega)).2.2 j i (by rw [am_sum_cv]; exact hsm) hl1 (hd3 (by omega)) hcf.2 (k lsC H locs cells slots hP hS hl hc hs)
  · exact nomatch h

end AMJ
