/-! ===== what the checks say ===== -/
theorem am_mem_PM {mi : Nat} {q : am_Mr × List (Nat × am_In)} (h : am_nth am_PM mi = some q) : q ∈ am_PM := am_nth_mem _ _ h
theorem am_ins_spec {mi pc : Nat} {i : Instr} {n x y : Nat} (h : am_ins mi pc = some (i, n, x, y)) : decode (am_mr mi).2.1 pc = .ok (i, n) ∧ (am_sw i = true ∨ n = am_len i) ∧ am_opk (am_mc mi) pc i n x y = true ∧ am_ix i = true := by
  unfold am_ins am_cd at h
  unfold am_mc am_mr
  cases hq : am_nth am_PM mi with
  | none => rw [hq] at h; exact nomatch h
  | some q =>
    rw [hq] at h
    have hm := am_find_mem _ _ h
    have h1 := am_PM_ok q (am_mem_PM hq)
    have h2 : am_chk1 q.1 (pc, i, n, x, y) = true := List.all_eq_true.mp h1 _ hm
    have h3 := List.all_eq_true.mp (List.all_eq_true.mp am_J_ok q (am_mem_PM hq)) _ hm
    unfold am_chk1 at h2
    simp only [Bool.and_eq_true, Bool.or_eq_true] at h2
    obtain ⟨g1, g2, g3⟩ := h2
    exact ⟨of_decide_eq_true g1, g2.imp id Nat.eq_of_beq_eq_true, g3, h3⟩
theorem am_has4_spec {l : List (Nat × Nat × Nat × Nat)} {k x y : Nat} (h : am_has4 l k x y = true) : ∃ q ∈ l, q.1 = k ∧ q.2.1 = x ∧ q.2.2.1 = y := by
  obtain ⟨q, h1, h2⟩ := List.any_eq_true.mp h
  simp only [Bool.and_eq_true] at h2
  exact ⟨q, h1, Nat.eq_of_beq_eq_true h2.1, Nat.eq_of_beq_eq_true h2.2.1, Nat.eq_of_beq_eq_true h2.2.2⟩
theorem am_has3_spec {l : List (Nat × Nat × Nat)} {k x : Nat} (h : am_has3 l k x = true) : ∃ q ∈ l, q.1 = k ∧ q.2.1 = x := by
  obtain ⟨q, h1, h2⟩ := List.any_eq_true.mp h
  simp only [Bool.and_eq_true] at h2
  exact ⟨q, h1, Nat.eq_of_beq_eq_true h2.1, Nat.eq_of_beq_eq_true h2.2⟩
theorem am_key {mc j : Nat} (h : j < 100000) : (mc * 100000 + j) / 100000 = mc ∧ (mc * 100000 + j) % 100000 = j := by omega
theorem am_fl_spec {mc j x y : Nat} (h : am_has4 am_FL (mc * 100000 + j) x y = true) (hj : j < 100000) : x < 13 ∧ y < (am_cls x).2.2 ∧ Cond.fieldLink (am_on mc) j ((am_cls x).2.1 y).1 ((am_cls x).2.1 y).2.1 ((am_cls x).2.1 y).2.2.1 ∈ am_TB := by
  obtain ⟨q, h1, h2, h3, h4⟩ := am_has4_spec h
  have h5 := List.all_eq_true.mp am_F_ok q h1
  unfold am_chkF at h5
  simp only [Bool.and_eq_true] at h5
  obtain ⟨g1, g2, g3⟩ := h5
  rw [h2, h3, h4, (am_key hj).1, (am_key hj).2] at g3
  rw [h3] at g1
  rw [h3, h4] at g2
  exact ⟨Nat.blt_eq.mp g1, Nat.blt_eq.mp g2, am_wd_ok g3⟩
theorem am_cls_get {x : Nat} (h : x < 13) : vwCl[x]? = some (am_cls x) := by
  match x, h with

  | 0, _ => rfl
  | 1, _ => rfl
  | 2, _ => rfl
  | 3, _ => rfl
  | 4, _ => rfl
  | 5, _ => rfl
  | 6, _ => rfl
  | 7, _ => rfl
  | 8, _ => rfl
  | 9, _ => rfl
  | 10, _ => rfl
  | 11, _ => rfl
  | 12, _ => rfl
  | x + 13, h => exact absurd h (by omega)
def am_tyf (x : Nat) : Nat → FieldType := match x with
  | 0 => tyX0
  | 1 => tyX1
  | 2 => tyX2
  | 3 => tyX3
  | 4 => tyX4
  | 5 => tyX5
  | 6 => tyX6
  | 7 => tyX7
  | 8 => tyX8
  | 9 => tyX9
  | 10 => tyX10
  | 11 => tyX11
  | _ => tyX12
theorem am_tyf_ok {x : Nat} (h : x < 13) : ∀ k, k < (am_cls x).2.2 → parseFieldDescriptor ((am_cls x).2.1 k).2.2.1 = some (am_tyf x k) := by
  match x, h with
  | 0, _ => exact tyX0_ok
  | 1, _ => exact tyX1_ok
  | 2, _ => exact tyX2_ok
  | 3, _ => exact tyX3_ok
  | 4, _ => exact tyX4_ok
  | 5, _ => exact tyX5_ok
  | 6, _ => exact tyX6_ok
  | 7, _ => exact tyX7_ok
  | 8, _ => exact tyX8_ok
  | 9, _ => exact tyX9_ok
  | 10, _ => exact tyX10_ok
  | 11, _ => exact tyX11_ok
  | 12, _ => exact tyX12_ok
  | x + 13, h => exact absurd h (by omega)
theorem am_nmf {x : Nat} (h : x < 13) : ∀ a, a < (am_cls x).2.2 → ∀ b, b < (am_cls x).2.2 → a ≠ b → ((am_cls x).2.1 a).2.1 ≠ ((am_cls x).2.1 b).2.1 := by
  match x, h with
  | 0, _ => exact nmX0
  | 1, _ => exact nmX1
  | 2, _ => exact nmX2
  | 3, _ => exact nmX3
  | 4, _ => exact nmX4
  | 5, _ => exact nmX5
  | 6, _ => exact nmX6
  | 7, _ => exact nmX7
  | 8, _ => exact nmX8
  | 9, _ => exact nmX9
  | 10, _ => exact nmX10
  | 11, _ => exact nmX11
  | 12, _ => exact nmX12
  | x + 13, h => exact absurd h (by omega)
theorem am_fty_eq (ci k : Nat) : (am_nth ((am_nth am_ft ci).getD []) k).getD (9, true) = am_fty ci k := by
  unfold am_fty
  cases am_nth am_ft ci <;> rfl
theorem am_cls_spec {x : Nat} (h : x < 13) : Cond.instantiable (am_cls x).1 (am_cls x).2.2 ∈ am_TB ∧ Cond.initialized (am_cls x).1 ∈ am_TB ∧ (∀ w ∈ u_ws (am_cls x).1 (am_cls x).2.1 (am_cls x).2.2, w ∈ am_TB) ∧
    ∀ k, k < (am_cls x).2.2 → ((am_cls x).2.1 k).1 = (am_cls x).1 ∧ ((am_cls x).2.1 k).2.2.2 = (am_fty x k).2 ∧ am_tyk (am_fty x k).1 (am_tyf x k) = true ∧ am_on x = (am_cls x).1 := by
  have h1 := List.all_eq_true.mp am_C_ok x (List.mem_range.mpr h)
  unfold am_chkC at h1
  simp only [Bool.and_eq_true] at h1
  obtain ⟨g1, g2, -, g3⟩ := h1
  have g4 : ∀ k, k < (am_cls x).2.2 → _ := fun k hk => List.all_eq_true.mp g3 k (List.mem_range.mpr hk)
  refine ⟨am_wd_ok g1, am_wd_ok g2, fun w hw => ?_, fun k hk => ?_⟩
  · obtain ⟨k, hk, rfl⟩ := List.mem_map.mp hw
    have g5 := g4 k (List.mem_range.mp hk)
    simp only [Bool.and_eq_true] at g5
    exact am_wd_ok g5.1
  · have g5 := g4 k hk
    simp only [Bool.and_eq_true] at g5
    obtain ⟨-, e1, e2, e3, e4⟩ := g5
    rw [am_fty_eq] at e2 e3
    rw [am_tyf_ok h k hk] at e3
    have e5 := of_decide_eq_true e4
    exact ⟨of_decide_eq_true e1, of_decide_eq_true e2, e3, by unfold am_on; rw [e5]; rfl⟩
theorem am_cls_pair (x : Nat) : am_cls x = ((am_cls x).1, (am_cls x).2.1, (am_cls x).2.2) := rfl
theorem am_fs_get {b t z : Nat} {M : am_Mem} {a ci k : Nat} (h : k < (am_cls ci).2.2) : (am_fs b t z M a ci)[k]? = some (am_fv b t z M a k (am_fty ci k).1) := by
  unfold am_fs
  rw [List.getElem?_map, List.getElem?_range h]
  rfl
theorem am_fs_len (b t z : Nat) (M : am_Mem) (a ci : Nat) : (am_fs b t z M a ci).length = (am_cls ci).2.2 := by simp [am_fs]
theorem am_fs_set {b t z : Nat} {M M' : am_Mem} {a ci k : Nat} {v : Value} (h : k < (am_cls ci).2.2) (hv : am_fv b t z M' a k (am_fty ci k).1 = v) (ho : ∀ j, j ≠ k → am_fv b t z M' a j (am_fty ci j).1 = am_fv b t z M a j (am_fty ci j).1) : am_fs b t z M' a ci = (am_fs b t z M a ci).set k v := by
  apply List.ext_getElem?
  intro j
  by_cases hj : j = k
  · subst hj
    rw [am_fs_get h, List.getElem?_set_self (by rw [am_fs_len]; exact h), hv]
  · rw [List.getElem?_set_ne (fun e => hj e.symm)]
    by_cases hl : j < (am_cls ci).2.2
    · rw [am_fs_get hl, am_fs_get hl, ho j hj]
    · rw [List.getElem?_eq_none (by rw [am_fs_len]; omega), List.getElem?_eq_none (by rw [am_fs_len]; omega)]
section AMH
variable {b t z L : Nat} {xs : Nat → Int32} {D : va_G} {dA : Nat → ClassId} {X : State → Prop} {mi d : Nat} {p : Program} {l : Launch} {e : Env} {R : Room} {s : State} {m : MethodId} {args : Array Value} {below : List Frame} {meth : Method} {c : Code} {Q : State → Prop} {kc ks : Nat}
variable {pc : Nat} {ls : am_Ls} {st : List Value} {M : am_Mem} {pc' : Nat} {ls' : am_Ls} {st' : List Value} {M' : am_Mem} {x y : Nat}
theorem am_w_getfield (C : am_Cx b t z L xs D dA X mi d kc R p s m args meth c) {j : Nat} (hd : decode (am_mr mi).2.1 pc = .ok (.getfield j, 3)) (h1 : am_has4 am_FL (am_mc mi * 100000 + j) x y = true) (h2 : j < 100000) (h : am_do (.getfield j) 3 x y mi pc ls st M = some (.inl (pc', ls', st', M')))  (k : am_WW b t z L xs D dA mi p l e R s m args below meth c Q kc ks pc' ls' st' M') : am_WW b t z L xs D dA mi p l e R s m args below meth c Q kc ks pc ls st M := by
  obtain ⟨hx, hb, hml, hown, hts, hSt, hr, hlk, hin, hfr, hlo, hz, hk3⟩ := C
  simp only [am_do, am_get] at h
  obtain ⟨f1, f2, f3⟩ := am_fl_spec h1 h2
  obtain ⟨-, -, c3, -⟩ := am_cls_spec f1
  split at h
  · rename_i a st1 hty
    cases hcf : am_cf M.2.2.2 a x with
    | false => rw [hcf] at h; exact nomatch (show (none : Option am_S) = some _ from h)
    | true =>
      rw [hcf] at h
      change am_go _ _ _ _ = _ at h
      cases h
      obtain ⟨hkd, h3, hlt⟩ := am_cf_spec hcf
      intro lsC H locs cells slots hP hS hl hc hs
      have k := k lsC H locs cells slots hP hS hl hc hs
      rw [List.map_cons, am_cvr h3]
      have he := am_ws_get (b := b) (t := t) (z := z) (dA := dA) (M := M) h3 hlt
      rw [am_en_ob hkd] at he
      have hv := am_fs_get (b := b) (t := t) (z := z) (M := M) (a := a) f2
      rw [hty] at hv
      exact va_get (C := (am_cls x).1) (T := (am_cls x).2.1) (N := (am_cls x).2.2) hx hb hts c3 hown hSt.1 hP.2.1 (a - 3) he (am_cls_get f1) y f2 (hts _ f3) (fun _ h9 => h9) hv hd k
  · rename_i a st1 hty
    cases hcf : am_cf M.2.2.2 a x with
    | false => rw [hcf] at h; exact nomatch (show (none : Option am_S) = some _ from h)
    | true =>
      rw [hcf] at h
      change am_go _ _ _ _ = _ at h
      cases h
      obtain ⟨hkd, h3, hlt⟩ := am_cf_spec hcf
      intro lsC H locs cells slots hP hS hl hc hs
      have k := k lsC H locs cells slots hP hS hl hc hs
      rw [List.map_cons, am_cvr h3]
      have he := am_ws_get (b := b) (t := t) (z := z) (dA := dA) (M := M) h3 hlt
      rw [am_en_ob hkd] at he
      have hv := am_fs_get (b := b) (t := t) (z := z) (M := M) (a := a) f2
      rw [hty] at hv
      exact va_get (C := (am_cls x).1) (T := (am_cls x).2.1) (N := (am_cls x).2.2) hx hb hts c3 hown hSt.1 hP.2.1 (a - 3) he (am_cls_get f1) y f2 (hts _ f3) (fun _ h9 => h9) hv hd k
  · rename_i a st1 hty
    cases hcf : am_cf M.2.2.2 a x with
    | false => rw [hcf] at h; exact nomatch (show (none : Option am_S) = some _ from h)
    | true =>
      rw [hcf] at h
      change am_go _ _ _ _ = _ at h
      cases h
      obtain ⟨hkd, h3, hlt⟩ := am_cf_spec hcf
      intro lsC H locs cells slots hP hS hl hc hs
      have k := k lsC H locs cells slots hP hS hl hc hs
      rw [List.map_cons, am_cvr h3]
      have he := am_ws_get (b := b) (t := t) (z := z) (dA := dA) (M := M) h3 hlt
      rw [am_en_ob hkd] at he
      have hv := am_fs_get (b := b) (t := t) (z := z) (M := M) (a := a) f2
      rw [hty] at hv
      exact va_get (C := (am_cls x).1) (T := (am_cls x).2.1) (N := (am_cls x).2.2) hx hb hts c3 hown hSt.1 hP.2.1 (a - 3) he (am_cls_get f1) y f2 (hts _ f3) (fun _ h9 => h9) hv hd k
  · rename_i a st1 hty
    cases hcf : am_cf M.2.2.2 a x with
    | false => rw [hcf] at h; exact nomatch (show (none : Option am_S) = some _ from h)
    | true =>
      rw [hcf] at h
      change am_go _ _ _ _ = _ at h
      cases h
      obtain ⟨hkd, h3, hlt⟩ := am_cf_spec hcf
      intro lsC H locs cells slots hP hS hl hc hs
      have k := k lsC H locs cells slots hP hS hl hc hs
      rw [List.map_cons, am_cvr h3]
      have he := am_ws_get (b := b) (t := t) (z := z) (dA := dA) (M := M) h3 hlt
      rw [am_en_ob hkd] at he
      have hv := am_fs_get (b := b) (t := t) (z := z) (M := M) (a := a) f2
      rw [hty] at hv
      exact va_get (C := (am_cls x).1) (T := (am_cls x).2.1) (N := (am_cls x).2.2) hx hb hts c3 hown hSt.1 hP.2.1 (a - 3) he (am_cls_get f1) y f2 (hts _ f3) (fun _ h9 => h9) hv hd k
  · exact nomatch h

theorem am_zb_spec {v : Int32} (h : am_zb v = true) : v = 0 ∨ v = 1 := by
  unfold am_zb at h
  simpa using h
theorem am_Rp_put {M : am_Mem} {M' : am_Mem} {a : Nat} {H1 : Heap} (hP : am_Rp b t z L xs D dA M H1 ∨ True) (h3 : 3 ≤ a) (hn : M'.2.2.2 = M.2.2.2) (hn3 : 3 ≤ M.2.2.2) (hj : ∀ j, j < L → M'.1 1 j = xs j) (hL : M'.2.2.1 0 0 = L) (h : va_P D vwCl (am_ws b t z dA M') H1) : am_Rp b t z L xs D dA M' H1 := ⟨by rw [hn]; exact hn3, h, hj, hL⟩
theorem am_w_putfield (C : am_Cx b t z L xs D dA X mi d kc R p s m args meth c) {j : Nat} (hd : decode (am_mr mi).2.1 pc = .ok (.putfield j, 3)) (h1 : am_has4 am_FL (am_mc mi * 100000 + j) x y = true) (h2 : j < 100000) (h : am_do (.putfield j) 3 x y mi pc ls st M = some (.inl (pc', ls', st', M')))  (k : am_WW b t z L xs D dA mi p l e R s m args below meth c Q kc ks pc' ls' st' M') : am_WW b t z L xs D dA mi p l e R s m args below meth c Q kc ks pc ls st M := by
  obtain ⟨hx, hb, hml, hown, hts, hSt, hr, hlk, hin, hfr, hlo, hz, hk3⟩ := C
  obtain ⟨f1, f2, f3⟩ := am_fl_spec h1 h2
  obtain ⟨-, -, c3, c4⟩ := am_cls_spec f1
  obtain ⟨e1, e2, e3, e4⟩ := c4 y f2
  simp only [am_do] at h
  cases hfi : ((am_fty x y).2 && !(Nat.beq (am_mk mi) 2 && Nat.beq (am_mc mi) x)) with
  | true => rw [hfi] at h; exact nomatch (show (none : Option am_S) = some _ from h)
  | false =>
    rw [hfi] at h
    change am_put mi 3 pc x y ls st M = _ at h
    simp only [am_put] at h
    split at h
    · rename_i v a st1 hty
      cases hcf : am_cf M.2.2.2 a x with
      | false => rw [hcf] at h; exact nomatch (show (none : Option am_S) = some _ from h)
      | true =>
        rw [hcf] at h
        change am_go _ _ _ _ = _ at h
        cases h
        obtain ⟨hkd, h3, hlt⟩ := am_cf_spec hcf
        intro lsC H locs cells slots hP hS hl hc hs
        rw [hty] at e3
        have hnf : narrow (am_tyf x y) (.int v) = .int v ∧ fits (am_tyf x y) (.int v) = true := by
          revert e3; generalize am_tyf x y = ty; intro e3; cases ty <;> first | exact ⟨rfl, rfl⟩ | exact nomatch e3
        have he := am_ws_get (b := b) (t := t) (z := z) (dA := dA) (M := M) h3 hlt
        rw [am_en_ob hkd] at he
        have hset : (am_ws b t z dA M).set (a - 3) (z + (a - 3), .inr (x, (am_fs b t z M a x).set y (.int v))) = am_ws b t z dA (am_up M.1 a y v, M.2.1, M.2.2.1, M.2.2.2) := by
          rw [am_ws_set (M := M) (M' := (am_up M.1 a y v, M.2.1, M.2.2.1, M.2.2.2)) h3 hlt rfl (fun q hq => am_en_eq (by exact am_up_ne _ _ _ _ hq) (by rfl) (by rfl)), am_en_ob hkd]
          rw [am_fs_set (M := M) (M' := (am_up M.1 a y v, M.2.1, M.2.2.1, M.2.2.2)) (a := a) (ci := x) (k := y) (v := .int v) f2 (by rw [hty]; simp [am_fv, am_up]) (fun j hj => by unfold am_fv; simp [am_up, hj])]
        have k2 : ∀ (H1 : Heap) (locs1 : List Loc), va_P D vwCl ((am_ws b t z dA M).set (a - 3) (z + (a - 3), .inr (x, (am_fs b t z M a x).set y (.int v)))) H1 → va_D (am_A z) ((am_ws b t z dA M).set (a - 3) (z + (a - 3), .inr (x, (am_fs b t z M a x).set y (.int v)))) → va_S (am_A z) s.heap H1 locs1 → W p l e R s m args below meth c H1 locs1 cells slots Q (F0 m (pc + 3) lsC (st'.map (am_cv b t z))) := by
          intro H1 locs1 hP1 _ hS1
          rw [hset] at hP1
          exact k lsC H1 locs1 cells slots ⟨hP.1, hP1, fun j hj => by exact (congrFun (am_up_ne M.1 a _ _ (by omega : (1 : Nat) ≠ a)) j).trans (hP.2.2.1 j hj), by exact hP.2.2.2⟩ hS1 hl hc hs
        rw [List.map_cons, List.map_cons, am_cvr h3]
        cases hfb : (am_fty x y).2 with
        | false => exact va_put (C := (am_cls x).1) (T := (am_cls x).2.1) (N := (am_cls x).2.2) hx hb hts c3 (am_tyf x) (am_tyf_ok f1) (am_nmf f1) hown hSt.1 hP.2.1 (am_ws_D b t z dA M) hS (a - 3) he (am_cls_get f1) y f2 (hts _ f3) (fun _ h9 => h9) (e2.trans hfb) (am_tyf_ok f1 y f2) hnf.1 hnf.2 (by rw [am_fs_len]; exact f2) hd k2
        | true =>
          rw [hfb] at hfi
          simp only [Bool.true_and, Bool.not_eq_false', Bool.and_eq_true] at hfi
          have hmk : am_mk mi = 2 := Nat.eq_of_beq_eq_true hfi.1
          have hmc : am_mc mi = x := Nat.eq_of_beq_eq_true hfi.2
          exact va_putF (C := (am_cls x).1) (T := (am_cls x).2.1) (N := (am_cls x).2.2) hx hb hts c3 (am_tyf x) (am_tyf_ok f1) (am_nmf f1) hown hSt.1 hP.2.1 (am_ws_D b t z dA M) hS (a - 3) he (am_cls_get f1) y f2 (hts _ f3) (fun _ h9 => h9) (e2.trans hfb) (hin hmk) (by rw [hmc, e4]; exact e1) (am_tyf_ok f1 y f2) hnf.1 hnf.2 (by rw [am_fs_len]; exact f2) hd k2
    · rename_i v a st1 hty
      cases hcf : (am_cf M.2.2.2 a x && am_zb v) with
      | false => rw [hcf] at h; exact nomatch (show (none : Option am_S) = some _ from h)
      | true =>
        rw [hcf] at h
        change am_go _ _ _ _ = _ at h
        cases h
        rw [Bool.and_eq_true] at hcf
        obtain ⟨hcf, hzb⟩ := hcf
        obtain ⟨hkd, h3, hlt⟩ := am_cf_spec hcf
        intro lsC H locs cells slots hP hS hl hc hs
        rw [hty] at e3
        have hnf : narrow (am_tyf x y) (.int v) = .int v ∧ fits (am_tyf x y) (.int v) = true := by
          revert e3; generalize am_tyf x y = ty; intro e3; rcases am_zb_spec hzb with rfl | rfl <;> (cases ty <;> first | exact ⟨rfl, rfl⟩ | exact nomatch e3)
        have he := am_ws_get (b := b) (t := t) (z := z) (dA := dA) (M := M) h3 hlt
        rw [am_en_ob hkd] at he
        have hset : (am_ws b t z dA M).set (a - 3) (z + (a - 3), .inr (x, (am_fs b t z M a x).set y (.int v))) = am_ws b t z dA (am_up M.1 a y v, M.2.1, M.2.2.1, M.2.2.2) := by
          rw [am_ws_set (M := M) (M' := (am_up M.1 a y v, M.2.1, M.2.2.1, M.2.2.2)) h3 hlt rfl (fun q hq => am_en_eq (by exact am_up_ne _ _ _ _ hq) (by rfl) (by rfl)), am_en_ob hkd]
          rw [am_fs_set (M := M) (M' := (am_up M.1 a y v, M.2.1, M.2.2.1, M.2.2.2)) (a := a) (ci := x) (k := y) (v := .int v) f2 (by rw [hty]; simp [am_fv, am_up]) (fun j hj => by unfold am_fv; simp [am_up, hj])]
        have k2 : ∀ (H1 : Heap) (locs1 : List Loc), va_P D vwCl ((am_ws b t z dA M).set (a - 3) (z + (a - 3), .inr (x, (am_fs b t z M a x).set y (.int v)))) H1 → va_D (am_A z) ((am_ws b t z dA M).set (a - 3) (z + (a - 3), .inr (x, (am_fs b t z M a x).set y (.int v)))) → va_S (am_A z) s.heap H1 locs1 → W p l e R s m args below meth c H1 locs1 cells slots Q (F0 m (pc + 3) lsC (st'.map (am_cv b t z))) := by
          intro H1 locs1 hP1 _ hS1
          rw [hset] at hP1
          exact k lsC H1 locs1 cells slots ⟨hP.1, hP1, fun j hj => by exact (congrFun (am_up_ne M.1 a _ _ (by omega : (1 : Nat) ≠ a)) j).trans (hP.2.2.1 j hj), by exact hP.2.2.2⟩ hS1 hl hc hs
        rw [List.map_cons, List.map_cons, am_cvr h3]
        cases hfb : (am_fty x y).2 with
        | false => exact va_put (C := (am_cls x).1) (T := (am_cls x).2.1) (N := (am_cls x).2.2) hx hb hts c3 (am_tyf x) (am_tyf_ok f1) (am_nmf f1) hown hSt.1 hP.2.1 (am_ws_D b t z dA M) hS (a - 3) he (am_cls_get f1) y f2 (hts _ f3) (fun _ h9 => h9) (e2.trans hfb) (am_tyf_ok f1 y f2) hnf.1 hnf.2 (by rw [am_fs_len]; exact f2) hd k2
        | true =>
          rw [hfb] at hfi
          simp only [Bool.true_and, Bool.not_eq_false', Bool.and_eq_true] at hfi
          have hmk : am_mk mi = 2 := Nat.eq_of_beq_eq_true hfi.1
          have hmc : am_mc mi = x := Nat.eq_of_beq_eq_true hfi.2
          exact va_putF (C := (am_cls x).1) (T := (am_cls x).2.1) (N := (am_cls x).2.2) hx hb hts c3 (am_tyf x) (am_tyf_ok f1) (am_nmf f1) hown hSt.1 hP.2.1 (am_ws_D b t z dA M) hS (a - 3) he (am_cls_get f1) y f2 (hts _ f3) (fun _ h9 => h9) (e2.trans hfb) (hin hmk) (by rw [hmc, e4]; exact e1) (am_tyf_ok f1 y f2) hnf.1 hnf.2 (by rw [am_fs_len]; exact f2) hd k2
    · rename_i v a st1 hty
      cases hcf : am_cf M.2.2.2 a x with
      | false => rw [hcf] at h; exact nomatch (show (none : Option am_S) = some _ from h)
      | true =>
        rw [hcf] at h
        change am_go _ _ _ _ = _ at h
        cases h
        obtain ⟨hkd, h3, hlt⟩ := am_cf_spec hcf
        intro lsC H locs cells slots hP hS hl hc hs
        rw [hty] at e3
        have hnf : narrow (am_tyf x y) (.long v) = .long v ∧ fits (am_tyf x y) (.long v) = true := by
          revert e3; generalize am_tyf x y = ty; intro e3; cases ty <;> first | exact ⟨rfl, rfl⟩ | exact nomatch e3
        have he := am_ws_get (b := b) (t := t) (z := z) (dA := dA) (M := M) h3 hlt
        rw [am_en_ob hkd] at he
        have hset : (am_ws b t z dA M).set (a - 3) (z + (a - 3), .inr (x, (am_fs b t z M a x).set y (.long v))) = am_ws b t z dA (M.1, am_up M.2.1 a y v, M.2.2.1, M.2.2.2) := by
          rw [am_ws_set (M := M) (M' := (M.1, am_up M.2.1 a y v, M.2.2.1, M.2.2.2)) h3 hlt rfl (fun q hq => am_en_eq (by rfl) (by exact am_up_ne _ _ _ _ hq) (by rfl)), am_en_ob hkd]
          rw [am_fs_set (M := M) (M' := (M.1, am_up M.2.1 a y v, M.2.2.1, M.2.2.2)) (a := a) (ci := x) (k := y) (v := .long v) f2 (by rw [hty]; simp [am_fv, am_up]) (fun j hj => by unfold am_fv; simp [am_up, hj])]
        have k2 : ∀ (H1 : Heap) (locs1 : List Loc), va_P D vwCl ((am_ws b t z dA M).set (a - 3) (z + (a - 3), .inr (x, (am_fs b t z M a x).set y (.long v)))) H1 → va_D (am_A z) ((am_ws b t z dA M).set (a - 3) (z + (a - 3), .inr (x, (am_fs b t z M a x).set y (.long v)))) → va_S (am_A z) s.heap H1 locs1 → W p l e R s m args below meth c H1 locs1 cells slots Q (F0 m (pc + 3) lsC (st'.map (am_cv b t z))) := by
          intro H1 locs1 hP1 _ hS1
          rw [hset] at hP1
          exact k lsC H1 locs1 cells slots ⟨hP.1, hP1, fun j hj => by exact hP.2.2.1 j hj, by exact hP.2.2.2⟩ hS1 hl hc hs
        rw [List.map_cons, List.map_cons, am_cvr h3]
        cases hfb : (am_fty x y).2 with
        | false => exact va_put (C := (am_cls x).1) (T := (am_cls x).2.1) (N := (am_cls x).2.2) hx hb hts c3 (am_tyf x) (am_tyf_ok f1) (am_nmf f1) hown hSt.1 hP.2.1 (am_ws_D b t z dA M) hS (a - 3) he (am_cls_get f1) y f2 (hts _ f3) (fun _ h9 => h9) (e2.trans hfb) (am_tyf_ok f1 y f2) hnf.1 hnf.2 (by rw [am_fs_len]; exact f2) hd k2
        | true =>
          rw [hfb] at hfi
          simp only [Bool.true_and, Bool.not_eq_false', Bool.and_eq_true] at hfi
          have hmk : am_mk mi = 2 := Nat.eq_of_beq_eq_true hfi.1
          have hmc : am_mc mi = x := Nat.eq_of_beq_eq_true hfi.2
          exact va_putF (C := (am_cls x).1) (T := (am_cls x).2.1) (N := (am_cls x).2.2) hx hb hts c3 (am_tyf x) (am_tyf_ok f1) (am_nmf f1) hown hSt.1 hP.2.1 (am_ws_D b t z dA M) hS (a - 3) he (am_cls_get f1) y f2 (hts _ f3) (fun _ h9 => h9) (e2.trans hfb) (hin hmk) (by rw [hmc, e4]; exact e1) (am_tyf_ok f1 y f2) hnf.1 hnf.2 (by rw [am_fs_len]; exact f2) hd k2
    · rename_i v a st1 hty
      cases hcf : am_cf M.2.2.2 a x with
      | false => rw [hcf] at h; exact nomatch (show (none : Option am_S) = some _ from h)
      | true =>
        rw [hcf] at h
        change am_go _ _ _ _ = _ at h
        cases h
        obtain ⟨hkd, h3, hlt⟩ := am_cf_spec hcf
        intro lsC H locs cells slots hP hS hl hc hs
        rw [hty] at e3
        have hnf : narrow (am_tyf x y) (am_cv b t z (.ref v)) = am_cv b t z (.ref v) ∧ fits (am_tyf x y) (am_cv b t z (.ref v)) = true := by
          revert e3; generalize am_tyf x y = ty; intro e3; cases v <;> (cases ty <;> first | exact ⟨rfl, rfl⟩ | exact nomatch e3)
        have he := am_ws_get (b := b) (t := t) (z := z) (dA := dA) (M := M) h3 hlt
        rw [am_en_ob hkd] at he
        have hset : (am_ws b t z dA M).set (a - 3) (z + (a - 3), .inr (x, (am_fs b t z M a x).set y (am_cv b t z (.ref v)))) = am_ws b t z dA (M.1, M.2.1, am_up M.2.2.1 a y v, M.2.2.2) := by
          rw [am_ws_set (M := M) (M' := (M.1, M.2.1, am_up M.2.2.1 a y v, M.2.2.2)) h3 hlt rfl (fun q hq => am_en_eq (by rfl) (by rfl) (by exact am_up_ne _ _ _ _ hq)), am_en_ob hkd]
          rw [am_fs_set (M := M) (M' := (M.1, M.2.1, am_up M.2.2.1 a y v, M.2.2.2)) (a := a) (ci := x) (k := y) (v := am_cv b t z (.ref v)) f2 (by rw [hty]; simp [am_fv, am_up]) (fun j hj => by unfold am_fv; simp [am_up, hj])]
        have k2 : ∀ (H1 : Heap) (locs1 : List Loc), va_P D vwCl ((am_ws b t z dA M).set (a - 3) (z + (a - 3), .inr (x, (am_fs b t z M a x).set y (am_cv b t z (.ref v))))) H1 → va_D (am_A z) ((am_ws b t z dA M).set (a - 3) (z + (a - 3), .inr (x, (am_fs b t z M a x).set y (am_cv b t z (.ref v))))) → va_S (am_A z) s.heap H1 locs1 → W p l e R s m args below meth c H1 locs1 cells slots Q (F0 m (pc + 3) lsC (st'.map (am_cv b t z))) := by
          intro H1 locs1 hP1 _ hS1
          rw [hset] at hP1
          exact k lsC H1 locs1 cells slots ⟨hP.1, hP1, fun j hj => by exact hP.2.2.1 j hj, by exact (congrFun (am_up_ne M.2.2.1 a _ _ (by omega : (0 : Nat) ≠ a)) 0).trans hP.2.2.2⟩ hS1 hl hc hs
        rw [List.map_cons, List.map_cons, am_cvr h3]
        cases hfb : (am_fty x y).2 with
        | false => exact va_put (C := (am_cls x).1) (T := (am_cls x).2.1) (N := (am_cls x).2.2) hx hb hts c3 (am_tyf x) (am_tyf_ok f1) (am_nmf f1) hown hSt.1 hP.2.1 (am_ws_D b t z dA M) hS (a - 3) he (am_cls_get f1) y f2 (hts _ f3) (fun _ h9 => h9) (e2.trans hfb) (am_tyf_ok f1 y f2) hnf.1 hnf.2 (by rw [am_fs_len]; exact f2) hd k2
        | true =>
          rw [hfb] at hfi
          simp only [Bool.true_and, Bool.not_eq_false', Bool.and_eq_true] at hfi
          have hmk : am_mk mi = 2 := Nat.eq_of_beq_eq_true hfi.1
          have hmc : am_mc mi = x := Nat.eq_of_beq_eq_true hfi.2
          exact va_putF (C := (am_cls x).1) (T := (am_cls x).2.1) (N := (am_cls x).2.2) hx hb hts c3 (am_tyf x) (am_tyf_ok f1) (am_nmf f1) hown hSt.1 hP.2.1 (am_ws_D b t z dA M) hS (a - 3) he (am_cls_get f1) y f2 (hts _ f3) (fun _ h9 => h9) (e2.trans hfb) (hin hmk) (by rw [hmc, e4]; exact e1) (am_tyf_ok f1 y f2) hnf.1 hnf.2 (by rw [am_fs_len]; exact f2) hd k2
    · exact nomatch h

theorem am_cs_spec {R : Nat → Nat → Nat} {n a : Nat} {i : Int32} (h : am_cs R n a i = true) : a < n ∧ ((am_kd a).1 = 1 ∨ (am_kd a).1 = 5) ∧ am_ok i (am_ln R a) = true := by
  unfold am_cs am_ia at h
  simp only [Bool.and_eq_true, Bool.or_eq_true] at h
  exact ⟨Nat.blt_eq.mp h.1, h.2.1.imp Nat.eq_of_beq_eq_true Nat.eq_of_beq_eq_true, h.2.2⟩
theorem am_ca_spec {n a g : Nat} {i : Int32} (h : am_ca n a g i = true) (hg : g < 5) : a < n ∧ 3 ≤ a ∧ am_kd a = (g, (am_kd a).2) ∧ vp_in i (am_kd a).2 ∧ i.toNatClampNeg < (am_kd a).2 := by
  unfold am_ca at h
  simp only [Bool.and_eq_true] at h
  have e : (am_kd a).1 = g := Nat.eq_of_beq_eq_true h.2.1
  have e2 : am_kd a = (g, (am_kd a).2) := by rw [← e]
  exact ⟨Nat.blt_eq.mp h.1, am_kd3 e2 hg, e2, am_ok_spec h.2.2⟩
theorem am_kd5 {a : Nat} (h : (am_kd a).1 = 5) : a = 1 := by
  by_cases h1 : a < 138
  · have key : ∀ a, a < 138 → (am_kd a).1 = 5 → a = 1 := by decide +kernel
    exact key a h1 h
  · have e : am_kd a = (9, 0) := by
      have : am_nth am_lay a = none := by
        have hgen : ∀ (l : List (Nat × Nat)) (k : Nat), l.length ≤ k → am_nth l k = none := by
          intro l
          induction l with
          | nil => intro k _; rfl
          | cons q r ih =>
            intro k hk
            cases k with
            | zero => simp at hk
            | succ k => exact ih k (by simp at hk; omega)
        exact hgen am_lay a (by have : am_lay.length = 138 := by decide +kernel
                                omega)
      unfold am_kd
      rw [this]
      rfl
    rw [e] at h
    exact absurd h (by decide)
theorem am_w_iaload (C : am_Cx b t z L xs D dA X mi d kc R p s m args meth c)  (hd : decode (am_mr mi).2.1 pc = .ok (.iaload, 1)) (hbz : b < z) (h : am_do (.iaload) 1 x y mi pc ls st M = some (.inl (pc', ls', st', M')))  (k : am_WW b t z L xs D dA mi p l e R s m args below meth c Q kc ks pc' ls' st' M') : am_WW b t z L xs D dA mi p l e R s m args below meth c Q kc ks pc ls st M := by
  obtain ⟨hx, hb, hml, hown, hts, hSt, hr, hlk, hin, hfr, hlo, hz, hk3⟩ := C
  simp only [am_do] at h
  split at h
  · rename_i i a st1
    cases hcf : am_cs M.2.2.1 M.2.2.2 a i with
    | false => rw [hcf] at h; exact nomatch (show (none : Option am_S) = some _ from h)
    | true =>
      rw [hcf] at h
      change am_go _ _ _ _ = _ at h
      cases h
      obtain ⟨hlt, hkd, hok⟩ := am_cs_spec hcf
      intro lsC H locs cells slots hP hS hl hc hs
      have k := k lsC H locs cells slots hP hS hl hc hs
      rcases hkd with hkd | hkd
      · have e2 : am_kd a = (1, (am_kd a).2) := by rw [← hkd]
        have h3 := am_kd3 e2 (by show 1 < 5; decide)
        have hln : am_ln M.2.2.1 a = (am_kd a).2 := by unfold am_ln; rw [hkd]; rfl
        rw [hln] at hok
        have he := am_ws_get (b := b) (t := t) (z := z) (dA := dA) (M := M) h3 hlt
        rw [am_en_I e2 (by decide) (by decide)] at he
        rw [List.map_cons, List.map_cons, am_cvr h3]
        exact va_iald hx hb hSt.1 hP.2.1 (a - 3) 0 he rfl (am_ok_spec hok).1 hd k
      · have e1 := am_kd5 hkd
        subst e1
        have hln : am_ln M.2.2.1 1 = L := hP.2.2.2
        rw [hln] at hok
        have hlt2 := (am_ok_spec hok).2
        have k2 : W p l e R s m args below meth c H locs cells slots Q (F0 m (pc + 1) lsC (.int (xs i.toNatClampNeg) :: st1.map (am_cv b t z))) := by
          rw [← hP.2.2.1 _ hlt2]
          exact k
        exact va_sld hx hb hSt.2.1 (by have := hSt.2.2.2.2; omega) (show ¬ z ≤ b by omega) hS (am_ok_spec hok).1 hd k2
  · exact nomatch h

theorem am_w_caload (C : am_Cx b t z L xs D dA X mi d kc R p s m args meth c)  (hd : decode (am_mr mi).2.1 pc = .ok (.caload, 1))  (h : am_do (.caload) 1 x y mi pc ls st M = some (.inl (pc', ls', st', M')))  (k : am_WW b t z L xs D dA mi p l e R s m args below meth c Q kc ks pc' ls' st' M') : am_WW b t z L xs D dA mi p l e R s m args below meth c Q kc ks pc ls st M := by
  obtain ⟨hx, hb, hml, hown, hts, hSt, hr, hlk, hin, hfr, hlo, hz, hk3⟩ := C
  simp only [am_do] at h
  split at h
  · rename_i i a st1
    cases hcf : am_ca M.2.2.2 a 3 i with
    | false => rw [hcf] at h; exact nomatch (show (none : Option am_S) = some _ from h)
    | true =>
      rw [hcf] at h
      change am_go _ _ _ _ = _ at h
      cases h
      obtain ⟨hlt, h3, e2, hin2, -⟩ := am_ca_spec hcf (by decide)
      intro lsC H locs cells slots hP hS hl hc hs
      have k := k lsC H locs cells slots hP hS hl hc hs
      have he := am_ws_get (b := b) (t := t) (z := z) (dA := dA) (M := M) h3 hlt
      rw [am_en_I e2 (by decide) (by decide)] at he
      rw [List.map_cons, List.map_cons, am_cvr h3]
      exact va_cald hx hb hSt.1 hP.2.1 (a - 3) 2 he rfl hin2 hd k
  · exact nomatch h

theorem am_w_baload (C : am_Cx b t z L xs D dA X mi d kc R p s m args meth c)  (hd : decode (am_mr mi).2.1 pc = .ok (.baload, 1))  (h : am_do (.baload) 1 x y mi pc ls st M = some (.inl (pc', ls', st', M')))  (k : am_WW b t z L xs D dA mi p l e R s m args below meth c Q kc ks pc' ls' st' M') : am_WW b t z L xs D dA mi p l e R s m args below meth c Q kc ks pc ls st M := by
  obtain ⟨hx, hb, hml, hown, hts, hSt, hr, hlk, hin, hfr, hlo, hz, hk3⟩ := C
  simp only [am_do] at h
  split at h
  · rename_i i a st1
    cases hcf : am_ca M.2.2.2 a 4 i with
    | false => rw [hcf] at h; exact nomatch (show (none : Option am_S) = some _ from h)
    | true =>
      rw [hcf] at h
      change am_go _ _ _ _ = _ at h
      cases h
      obtain ⟨hlt, h3, e2, hin2, -⟩ := am_ca_spec hcf (by decide)
      intro lsC H locs cells slots hP hS hl hc hs
      have k := k lsC H locs cells slots hP hS hl hc hs
      have he := am_ws_get (b := b) (t := t) (z := z) (dA := dA) (M := M) h3 hlt
      rw [am_en_I e2 (by decide) (by decide)] at he
      rw [List.map_cons, List.map_cons, am_cvr h3]
      exact va_zald hx hb hSt.1 hP.2.1 (a - 3) 3 he rfl hin2 hd k
  · exact nomatch h

theorem am_w_laload (C : am_Cx b t z L xs D dA X mi d kc R p s m args meth c)  (hd : decode (am_mr mi).2.1 pc = .ok (.laload, 1))  (h : am_do (.laload) 1 x y mi pc ls st M = some (.inl (pc', ls', st', M')))  (k : am_WW b t z L xs D dA mi p l e R s m args below meth c Q kc ks pc' ls' st' M') : am_WW b t z L xs D dA mi p l e R s m args below meth c Q kc ks pc ls st M := by
  obtain ⟨hx, hb, hml, hown, hts, hSt, hr, hlk, hin, hfr, hlo, hz, hk3⟩ := C
  simp only [am_do] at h
  split at h
  · rename_i i a st1
    cases hcf : am_ca M.2.2.2 a 2 i with
    | false => rw [hcf] at h; exact nomatch (show (none : Option am_S) = some _ from h)
    | true =>
      rw [hcf] at h
      change am_go _ _ _ _ = _ at h
      cases h
      obtain ⟨hlt, h3, e2, hin2, -⟩ := am_ca_spec hcf (by decide)
      intro lsC H locs cells slots hP hS hl hc hs
      have k := k lsC H locs cells slots hP hS hl hc hs
      have he := am_ws_get (b := b) (t := t) (z := z) (dA := dA) (M := M) h3 hlt
      rw [am_en_J e2] at he
      rw [List.map_cons, List.map_cons, am_cvr h3]
      exact va_lald hx hb hSt.1 hP.2.1 (a - 3) 1 he rfl hin2 hd k
  · exact nomatch h

theorem am_w_iastore (C : am_Cx b t z L xs D dA X mi d kc R p s m args meth c)  (hd : decode (am_mr mi).2.1 pc = .ok (.iastore, 1))  (h : am_do (.iastore) 1 x y mi pc ls st M = some (.inl (pc', ls', st', M')))  (k : am_WW b t z L xs D dA mi p l e R s m args below meth c Q kc ks pc' ls' st' M') : am_WW b t z L xs D dA mi p l e R s m args below meth c Q kc ks pc ls st M := by
  obtain ⟨hx, hb, hml, hown, hts, hSt, hr, hlk, hin, hfr, hlo, hz, hk3⟩ := C
  simp only [am_do] at h
  split at h
  · rename_i v i a st1
    cases hcf : am_ca M.2.2.2 a 1 i with
    | false => rw [hcf] at h; exact nomatch (show (none : Option am_S) = some _ from h)
    | true =>
      rw [hcf] at h
      change am_go _ _ _ _ = _ at h
      cases h
      obtain ⟨hlt, h3, e2, hin2, -⟩ := am_ca_spec hcf (by decide)
      intro lsC H locs cells slots hP hS hl hc hs
      have he := am_ws_get (b := b) (t := t) (z := z) (dA := dA) (M := M) h3 hlt
      rw [am_en_I e2 (by decide) (by decide)] at he
      have hset : (am_ws b t z dA M).set (a - 3) (z + (a - 3), .inl (dA 1, (am_kd a).2, .inl (upd (M.1 a) i.toNatClampNeg v))) = am_ws b t z dA (am_up M.1 a i.toNatClampNeg v, M.2.1, M.2.2.1, M.2.2.2) := by
        rw [am_ws_set (M := M) (M' := (am_up M.1 a i.toNatClampNeg v, M.2.1, M.2.2.1, M.2.2.2)) h3 hlt rfl (fun q hq => am_en_eq (by exact am_up_ne _ _ _ _ hq) (by rfl) rfl), am_en_I e2 (by decide) (by decide)]
        simp only [am_up_self]
        rfl
      rw [List.map_cons, List.map_cons, List.map_cons, am_cvr h3]
      refine va_iast hx hb hSt.1 hP.2.1 (am_ws_D b t z dA M) hS (a - 3) 0 he rfl hin2 hd (fun H1 locs1 hP1 _ hS1 => ?_)
      rw [hset] at hP1
      exact k lsC H1 locs1 cells slots ⟨hP.1, hP1, fun j hj => by exact (congrFun (am_up_ne M.1 a _ _ (by omega : (1 : Nat) ≠ a)) j).trans (hP.2.2.1 j hj), by exact hP.2.2.2⟩ hS1 hl hc hs
  · exact nomatch h

theorem am_w_castore (C : am_Cx b t z L xs D dA X mi d kc R p s m args meth c)  (hd : decode (am_mr mi).2.1 pc = .ok (.castore, 1))  (h : am_do (.castore) 1 x y mi pc ls st M = some (.inl (pc', ls', st', M')))  (k : am_WW b t z L xs D dA mi p l e R s m args below meth c Q kc ks pc' ls' st' M') : am_WW b t z L xs D dA mi p l e R s m args below meth c Q kc ks pc ls st M := by
  obtain ⟨hx, hb, hml, hown, hts, hSt, hr, hlk, hin, hfr, hlo, hz, hk3⟩ := C
  simp only [am_do] at h
  split at h
  · rename_i v i a st1
    cases hcf : (am_ca M.2.2.2 a 3 i && (vp_nar .char v == v)) with
    | false => rw [hcf] at h; exact nomatch (show (none : Option am_S) = some _ from h)
    | true =>
      rw [hcf] at h
      change am_go _ _ _ _ = _ at h
      cases h
      rw [Bool.and_eq_true] at hcf
      obtain ⟨hcf, hnv⟩ := hcf
      have hnv : vp_nar .char v = v := by simpa using hnv
      obtain ⟨hlt, h3, e2, hin2, -⟩ := am_ca_spec hcf (by decide)
      intro lsC H locs cells slots hP hS hl hc hs
      have he := am_ws_get (b := b) (t := t) (z := z) (dA := dA) (M := M) h3 hlt
      rw [am_en_I e2 (by decide) (by decide)] at he
      have hset : (am_ws b t z dA M).set (a - 3) (z + (a - 3), .inl (dA 3, (am_kd a).2, .inl (upd (M.1 a) i.toNatClampNeg v))) = am_ws b t z dA (am_up M.1 a i.toNatClampNeg v, M.2.1, M.2.2.1, M.2.2.2) := by
        rw [am_ws_set (M := M) (M' := (am_up M.1 a i.toNatClampNeg v, M.2.1, M.2.2.1, M.2.2.2)) h3 hlt rfl (fun q hq => am_en_eq (by exact am_up_ne _ _ _ _ hq) (by rfl) rfl), am_en_I e2 (by decide) (by decide)]
        simp only [am_up_self]
        rfl
      rw [List.map_cons, List.map_cons, List.map_cons, am_cvr h3]
      refine va_cast hx hb hSt.1 hP.2.1 (am_ws_D b t z dA M) hS (a - 3) 2 he rfl hin2 hd (fun H1 locs1 hP1 _ hS1 => ?_)
      rw [hnv] at hP1
      rw [hset] at hP1
      exact k lsC H1 locs1 cells slots ⟨hP.1, hP1, fun j hj => by exact (congrFun (am_up_ne M.1 a _ _ (by omega : (1 : Nat) ≠ a)) j).trans (hP.2.2.1 j hj), by exact hP.2.2.2⟩ hS1 hl hc hs
  · exact nomatch h

theorem am_w_bastore (C : am_Cx b t z L xs D dA X mi d kc R p s m args meth c)  (hd : decode (am_mr mi).2.1 pc = .ok (.bastore, 1))  (h : am_do (.bastore) 1 x y mi pc ls st M = some (.inl (pc', ls', st', M')))  (k : am_WW b t z L xs D dA mi p l e R s m args below meth c Q kc ks pc' ls' st' M') : am_WW b t z L xs D dA mi p l e R s m args below meth c Q kc ks pc ls st M := by
  obtain ⟨hx, hb, hml, hown, hts, hSt, hr, hlk, hin, hfr, hlo, hz, hk3⟩ := C
  simp only [am_do] at h
  split at h
  · rename_i v i a st1
    cases hcf : (am_ca M.2.2.2 a 4 i && am_zb v) with
    | false => rw [hcf] at h; exact nomatch (show (none : Option am_S) = some _ from h)
    | true =>
      rw [hcf] at h
      change am_go _ _ _ _ = _ at h
      cases h
      rw [Bool.and_eq_true] at hcf
      obtain ⟨hcf, hnv⟩ := hcf
      have hnv : vp_nar .boolean v = v := by rcases am_zb_spec hnv with rfl | rfl <;> rfl
      obtain ⟨hlt, h3, e2, hin2, -⟩ := am_ca_spec hcf (by decide)
      intro lsC H locs cells slots hP hS hl hc hs
      have he := am_ws_get (b := b) (t := t) (z := z) (dA := dA) (M := M) h3 hlt
      rw [am_en_I e2 (by decide) (by decide)] at he
      have hset : (am_ws b t z dA M).set (a - 3) (z + (a - 3), .inl (dA 4, (am_kd a).2, .inl (upd (M.1 a) i.toNatClampNeg v))) = am_ws b t z dA (am_up M.1 a i.toNatClampNeg v, M.2.1, M.2.2.1, M.2.2.2) := by
        rw [am_ws_set (M := M) (M' := (am_up M.1 a i.toNatClampNeg v, M.2.1, M.2.2.1, M.2.2.2)) h3 hlt rfl (fun q hq => am_en_eq (by exact am_up_ne _ _ _ _ hq) (by rfl) rfl), am_en_I e2 (by decide) (by decide)]
        simp only [am_up_self]
        rfl
      rw [List.map_cons, List.map_cons, List.map_cons, am_cvr h3]
      refine va_zast hx hb hSt.1 hP.2.1 (am_ws_D b t z dA M) hS (a - 3) 3 he rfl hin2 hd (fun H1 locs1 hP1 _ hS1 => ?_)
      rw [hnv] at hP1
      rw [hset] at hP1
      exact k lsC H1 locs1 cells slots ⟨hP.1, hP1, fun j hj => by exact (congrFun (am_up_ne M.1 a _ _ (by omega : (1 : Nat) ≠ a)) j).trans (hP.2.2.1 j hj), by exact hP.2.2.2⟩ hS1 hl hc hs
  · exact nomatch h

theorem am_w_lastore (C : am_Cx b t z L xs D dA X mi d kc R p s m args meth c)  (hd : decode (am_mr mi).2.1 pc = .ok (.lastore, 1))  (h : am_do (.lastore) 1 x y mi pc ls st M = some (.inl (pc', ls', st', M')))  (k : am_WW b t z L xs D dA mi p l e R s m args below meth c Q kc ks pc' ls' st' M') : am_WW b t z L xs D dA mi p l e R s m args below meth c Q kc ks pc ls st M := by
  obtain ⟨hx, hb, hml, hown, hts, hSt, hr, hlk, hin, hfr, hlo, hz, hk3⟩ := C
  simp only [am_do] at h
  split at h
  · rename_i v i a st1
    cases hcf : am_ca M.2.2.2 a 2 i with
    | false => rw [hcf] at h; exact nomatch (show (none : Option am_S) = some _ from h)
    | true =>
      rw [hcf] at h
      change am_go _ _ _ _ = _ at h
      cases h
      obtain ⟨hlt, h3, e2, hin2, -⟩ := am_ca_spec hcf (by decide)
      intro lsC H locs cells slots hP hS hl hc hs
      have he := am_ws_get (b := b) (t := t) (z := z) (dA := dA) (M := M) h3 hlt
      rw [am_en_J e2] at he
      have hset : (am_ws b t z dA M).set (a - 3) (z + (a - 3), .inl (dA 2, (am_kd a).2, .inr (.inl (vp_updL (M.2.1 a) i.toNatClampNeg v)))) = am_ws b t z dA (M.1, am_up M.2.1 a i.toNatClampNeg v, M.2.2.1, M.2.2.2) := by
        rw [am_ws_set (M := M) (M' := (M.1, am_up M.2.1 a i.toNatClampNeg v, M.2.2.1, M.2.2.2)) h3 hlt rfl (fun q hq => am_en_eq (by rfl) (by exact am_up_ne _ _ _ _ hq) rfl), am_en_J e2]
        simp only [am_up_self]
        rfl
      rw [List.map_cons, List.map_cons, List.map_cons, am_cvr h3]
      refine va_last hx hb hSt.1 hP.2.1 (am_ws_D b t z dA M) hS (a - 3) 1 he rfl hin2 hd (fun H1 locs1 hP1 _ hS1 => ?_)
      rw [hset] at hP1
      exact k lsC H1 locs1 cells slots ⟨hP.1, hP1, fun j hj => by exact hP.2.2.1 j hj, by exact hP.2.2.2⟩ hS1 hl hc hs
  · exact nomatch h

end AMH
