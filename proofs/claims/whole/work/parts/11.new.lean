/-! ===== constants, new cells, lengths, switches, the JDK's own ===== -/
theorem am_Wsz {p : Program} {l : Launch} {e : Env} {R : Room} {s : State} {m : MethodId} {args : Array Value} {below : List Frame} {meth : Method} {c : Code} {H : Heap} {locs : List Loc} {cells slots : Nat} {Q : State → Prop} {g : JFrame}
    (h : H.size ≤ s.heap.size + cells → W p l e R s m args below meth c H locs cells slots Q g) : W p l e R s m args below meth c H locs cells slots Q g :=
  fun T hT X => h (by rw [← hT]; exact X.same.2.2.1) T hT X
theorem am_i_toInt {v : Int} (h1 : -2147483648 ≤ v) (h2 : v < 2147483648) : (am_i v).toInt = v := Int32.toInt_ofInt_of_le (by omega) (by omega)
theorem am_i_iff {v : Int} (h1 : -2147483648 ≤ v) (h2 : v < 2147483648) (x : Int32) : x = am_i v ↔ x.toInt = v := by
  constructor
  · intro h; rw [h]; exact am_i_toInt h1 h2
  · intro h; apply Int32.toInt_inj.mp; rw [h, am_i_toInt h1 h2]
theorem am_i_nat (n : Nat) : am_i (n : Int) = Int32.ofNat n := Int32.ofInt_eq_ofNat
/-- what is told of the text constant -/
def am_TX (l : Launch) (b t z L : Nat) (xs : Nat → Int32) (D : va_G) (dA : Nat → ClassId) (X : State → Prop) : Prop :=
  ∀ (mi d kc : Nat) (p : Program) (e : Env) (R : Room) (s : State) (m : MethodId) (args : Array Value) (below : List Frame) (meth : Method) (c : Code) (H : Heap) (locs : List Loc) (cells slots : Nat) (Q : State → Prop) (lsC : Array Slot) (pc : Nat) (rest : List Value),
    am_Cx b t z L xs D dA X mi d kc R p s m args meth c → va_S (am_A z) s.heap H locs → lsC.size = am_ml mi → cells ≤ R.cells → slots ≤ R.slots →
    (am_mc mi = 9 → decode (am_mr mi).2.1 pc = .ok (.ldc 22, 2) → W p l e R s m args below meth c H locs cells slots Q (F0 m (pc + 2) lsC (.ref t :: rest)) → W p l e R s m args below meth c H locs cells slots Q (F0 m pc lsC rest)) ∧
    (∀ j, (rest.map fun v => v.category).sum ≤ 4 → Cond.methodLink (am_on (am_mc mi)) j (am_jn 17) ∈ am_TB → decode (am_mr mi).2.1 pc = .ok (.invokevirtual j, 3) → W p l e R s m args below meth c H locs cells slots Q (F0 m (pc + 3) lsC (.int (am_i am_str.length) :: rest)) → W p l e R s m args below meth c H locs cells slots Q (F0 m pc lsC (.ref t :: rest))) ∧
    (∀ j i, (rest.map fun v => v.category).sum ≤ 4 → Cond.methodLink (am_on (am_mc mi)) j (am_jn 18) ∈ am_TB → decode (am_mr mi).2.1 pc = .ok (.invokevirtual j, 3) → am_ok i am_str.length = true → W p l e R s m args below meth c H locs cells slots Q (F0 m (pc + 3) lsC (.int (am_i ((am_nth am_str i.toNatClampNeg).getD 0)) :: rest)) → W p l e R s m args below meth c H locs cells slots Q (F0 m pc lsC (.int i :: .ref t :: rest)))
section AMN
variable {b t z L : Nat} {xs : Nat → Int32} {D : va_G} {dA : Nat → ClassId} {X : State → Prop} {mi d : Nat} {p : Program} {l : Launch} {e : Env} {R : Room} {s : State} {m : MethodId} {args : Array Value} {below : List Frame} {meth : Method} {c : Code} {Q : State → Prop} {kc ks : Nat}
variable {pc : Nat} {ls : am_Ls} {st : List Value} {M : am_Mem} {pc' : Nat} {ls' : am_Ls} {st' : List Value} {M' : am_Mem} {x y : Nat}
theorem am_k3_spec {mc j x : Nat} (h : am_has3 am_KL (mc * 100000 + j) x = true) (hj : j < 100000) : Cond.constant (am_on mc) j (am_i ((am_nth am_kc x).getD 0)) ∈ am_TB := by
  obtain ⟨q, h1, h2, h3⟩ := am_has3_spec h
  have h5 := List.all_eq_true.mp am_KL_ok q h1
  rw [h2, h3, (am_key hj).1, (am_key hj).2] at h5
  exact am_wd_ok h5
theorem am_j3_spec {mc j x : Nat} (h : am_has3 am_JL (mc * 100000 + j) x = true) (hj : j < 100000) : Cond.constantLong (am_on mc) j (am_l ((am_nth am_kl x).getD 0)) ∈ am_TB := by
  obtain ⟨q, h1, h2, h3⟩ := am_has3_spec h
  have h5 := List.all_eq_true.mp am_JL_ok q h1
  rw [h2, h3, (am_key hj).1, (am_key hj).2] at h5
  exact am_wd_ok h5
theorem am_w_ldc (C : am_Cx b t z L xs D dA X mi d kc R p s m args meth c) {j : Nat} (hd : decode (am_mr mi).2.1 pc = .ok (.ldc j, 2)) (hT : am_TX l b t z L xs D dA X) (h1 : (bif Nat.beq y 0 then am_has3 am_KL (am_mc mi * 100000 + j) x else (Nat.beq (am_mc mi) 9 && Nat.beq j 22)) = true) (h2 : j < 100000) (h : am_do (.ldc j) 2 x y mi pc ls st M = some (.inl (pc', ls', st', M'))) (hp1 : M'.2.2.2 ≤ R.cells + kc) (hp2 : am_sl M'.2.2.2 ≤ R.slots + ks) (k : am_WW b t z L xs D dA mi p l e R s m args below meth c Q kc ks pc' ls' st' M') : am_WW b t z L xs D dA mi p l e R s m args below meth c Q kc ks pc ls st M := by
  have C0 := C
  obtain ⟨hx, hb, hml, hown, hts, hSt, hr, hlk, hin, hfr, hlo, hz, hk3⟩ := C
  simp only [am_do] at h
  cases hy : Nat.beq y 0 with
  | true =>
    rw [hy] at h h1
    change am_go _ _ _ _ = _ at h
    cases h
    intro lsC H locs cells slots hP hS hl hc hs
    exact lv_ldc hx hb hown (hts _ (am_k3_spec h1 h2)) hd (k lsC H locs cells slots hP hS hl hc hs)
  | false =>
    rw [hy] at h h1
    change am_go _ _ _ _ = _ at h
    cases h
    change (Nat.beq (am_mc mi) 9 && Nat.beq j 22) = true at h1
    rw [Bool.and_eq_true] at h1
    have e1 : am_mc mi = 9 := Nat.eq_of_beq_eq_true h1.1
    have e2 : j = 22 := Nat.eq_of_beq_eq_true h1.2
    subst e2
    intro lsC H locs cells slots hP hS hl hc hs
    exact (hT mi d kc p e R s m args below meth c H locs cells slots Q lsC pc _ C0 hS hl.1 (by omega) (by omega)).1 e1 hd (k lsC H locs cells slots hP hS hl hc hs)

theorem am_w_ldc_w (C : am_Cx b t z L xs D dA X mi d kc R p s m args meth c) {j : Nat} (hd : decode (am_mr mi).2.1 pc = .ok (.ldc_w j, 3)) (h1 : am_has3 am_KL (am_mc mi * 100000 + j) x = true) (h2 : j < 100000) (h : am_do (.ldc_w j) 3 x y mi pc ls st M = some (.inl (pc', ls', st', M')))  (k : am_WW b t z L xs D dA mi p l e R s m args below meth c Q kc ks pc' ls' st' M') : am_WW b t z L xs D dA mi p l e R s m args below meth c Q kc ks pc ls st M := by
  obtain ⟨hx, hb, hml, hown, hts, hSt, hr, hlk, hin, hfr, hlo, hz, hk3⟩ := C
  simp only [am_do] at h
  cases hy : Nat.beq y 0 with
  | true =>
    rw [hy] at h
    change am_go _ _ _ _ = _ at h
    cases h
    intro lsC H locs cells slots hP hS hl hc hs
    exact lv_ldcw hx hb hown (hts _ (am_k3_spec h1 h2)) hd (k lsC H locs cells slots hP hS hl hc hs)
  | false => rw [hy] at h; exact nomatch (show (none : Option am_S) = some _ from h)

theorem am_w_ldc2_w (C : am_Cx b t z L xs D dA X mi d kc R p s m args meth c) {j : Nat} (hd : decode (am_mr mi).2.1 pc = .ok (.ldc2_w j, 3)) (h1 : am_has3 am_JL (am_mc mi * 100000 + j) x = true) (h2 : j < 100000) (h : am_do (.ldc2_w j) 3 x y mi pc ls st M = some (.inl (pc', ls', st', M')))  (k : am_WW b t z L xs D dA mi p l e R s m args below meth c Q kc ks pc' ls' st' M') : am_WW b t z L xs D dA mi p l e R s m args below meth c Q kc ks pc ls st M := by
  obtain ⟨hx, hb, hml, hown, hts, hSt, hr, hlk, hin, hfr, hlo, hz, hk3⟩ := C
  cases h
  intro lsC H locs cells slots hP hS hl hc hs
  exact lv_ldc2 hx hb hown (hts _ (am_j3_spec h1 h2)) hd (k lsC H locs cells slots hP hS hl hc hs)

theorem am_fresh {q : Nat} {H1 : Heap} {M : am_Mem} {cells : Nat} {y : va_E} (h3 : 3 ≤ M.2.2.2) (hz : s.heap.size = z + (kc - 3)) (hk3 : 3 ≤ kc) (hc : cells + kc = M.2.2.2) (hsz : H1.size ≤ s.heap.size + (cells + 1)) (hP1 : va_P D vwCl (am_ws b t z dA M ++ [(q, y)]) H1) (hD1 : va_D (am_A z) (am_ws b t z dA M ++ [(q, y)])) : q = z + (M.2.2.2 - 3) := by
  have hlast : (am_ws b t z dA M ++ [(q, y)])[M.2.2.2 - 3]? = some (q, y) := by
    rw [List.getElem?_append_right (by rw [am_ws_len]; exact Nat.le_refl _), am_ws_len, Nat.sub_self]
    rfl
  have hlt : q < H1.size := (hP1 _ _ hlast).lt
  have hge : z ≤ q := hD1.2 _ _ hlast
  rcases Nat.lt_or_ge q (z + (M.2.2.2 - 3)) with hq | hq
  · exfalso
    have hg : (am_ws b t z dA M ++ [(q, y)])[q - z]? = some (z + (q - z), am_en b t z dA M (q - z + 3)) := by
      rw [List.getElem?_append_left (by rw [am_ws_len]; omega)]
      have := am_ws_get (b := b) (t := t) (z := z) (dA := dA) (M := M) (c := q - z + 3) (by omega) (by omega)
      simpa using this
    have e := hD1.1 _ _ _ _ hg hlast (by show z + (q - z) = q; omega)
    omega
  · omega
theorem am_cl_self {α : Type} (f : Nat → Nat → α) (a : Nat) (v : α) : am_cl f a v a = fun _ => v := by
  funext j; simp [am_cl]
theorem am_c3_spec {mc j x : Nat} (h : am_has3 am_CL (mc * 100000 + j) x = true) (hj : j < 100000) : Cond.classLink (am_on mc) j (am_cls x).1 ∈ am_TB ∧ x < 13 := by
  obtain ⟨q, h1, h2, h3⟩ := am_has3_spec h
  have h5 := List.all_eq_true.mp am_CL_ok q h1
  rw [Bool.and_eq_true] at h5
  rw [h2, h3, (am_key hj).1, (am_key hj).2] at h5
  exact ⟨am_wd_ok h5.1, Nat.blt_eq.mp h5.2⟩
theorem am_w_new (C : am_Cx b t z L xs D dA X mi d kc R p s m args meth c) {j : Nat} (hd : decode (am_mr mi).2.1 pc = .ok (.new j, 3)) (h1 : am_has3 am_CL (am_mc mi * 100000 + j) x = true) (h2 : j < 100000) (h : am_do (.new j) 3 x y mi pc ls st M = some (.inl (pc', ls', st', M'))) (hp1 : M'.2.2.2 ≤ R.cells + kc) (hp2 : am_sl M'.2.2.2 ≤ R.slots + ks) (k : am_WW b t z L xs D dA mi p l e R s m args below meth c Q kc ks pc' ls' st' M') : am_WW b t z L xs D dA mi p l e R s m args below meth c Q kc ks pc ls st M := by
  obtain ⟨hx, hb, hml, hown, hts, hSt, hr, hlk, hin, hfr, hlo, hz, hk3⟩ := C
  simp only [am_do] at h
  obtain ⟨f1, f2⟩ := am_c3_spec h1 h2
  obtain ⟨c1, c2, c3, c4⟩ := am_cls_spec f2
  cases hcf : am_cf (M.2.2.2 + 1) M.2.2.2 x with
  | false => rw [hcf] at h; exact nomatch (show (none : Option am_S) = some _ from h)
  | true =>
    rw [hcf] at h
    change am_go _ _ _ _ = _ at h
    cases h
    obtain ⟨hkd, h3, -⟩ := am_cf_spec hcf
    intro lsC H locs cells slots hP hS hl hc hs
    have hsl : am_sl (M.2.2.2 + 1) = am_sl M.2.2.2 + (am_cls x).2.2 := by
      show am_sl M.2.2.2 + am_sz M.2.2.2 = _
      unfold am_sz; rw [hkd]; rfl
    have hp2 : am_sl (M.2.2.2 + 1) ≤ R.slots + ks := hp2
    have hp1 : M.2.2.2 + 1 ≤ R.cells + kc := hp1
    refine va_new (C := (am_cls x).1) (T := (am_cls x).2.1) (N := (am_cls x).2.2) (fs := am_fs b t z (am_cl M.1 M.2.2.2 0, am_cl M.2.1 M.2.2.2 0, am_cl M.2.2.1 M.2.2.2 0, M.2.2.2 + 1) M.2.2.2 x) hx hb hts c3 (am_tyf x) (am_tyf_ok f2) hown (hts _ f1) (hts _ c1) (hts _ c2) hSt.1 hP.2.1 (am_ws_D b t z dA M) hS (fun q hq => by show z ≤ q; omega) (am_cls_get f2) (fun i hi => ?_) (by omega) (by omega) hd (fun q H1 hP1 hD1 hS1 => ?_)
    · unfold vp_V
      rw [List.getD_eq_getElem?_getD, am_fs_get hi]
      have e3 := (c4 i hi).2.2.1
      revert e3
      generalize am_tyf x i = ty
      generalize (am_fty x i).1 = tc
      intro e3
      show defaultValue ty = am_fv b t z (am_cl M.1 M.2.2.2 0, am_cl M.2.1 M.2.2.2 0, am_cl M.2.2.1 M.2.2.2 0, M.2.2.2 + 1) M.2.2.2 i tc
      unfold am_fv
      simp only [am_cl_self]
      match tc, ty, e3 with
      | 0, .int, _ => rfl
      | 1, .boolean, _ => rfl
      | 2, .long, _ => rfl
      | 3, .object _, _ => rfl
      | 3, .array _, _ => rfl
    · refine am_Wsz (fun hsz => ?_)
      have hq := am_fresh h3 hz hk3 hc hsz hP1 hD1
      subst hq
      have hpush := am_ws_push (b := b) (t := t) (z := z) (dA := dA) (M := M) (M' := (am_cl M.1 M.2.2.2 0, am_cl M.2.1 M.2.2.2 0, am_cl M.2.2.1 M.2.2.2 0, M.2.2.2 + 1)) h3 rfl (fun q hq => am_en_eq (by exact am_cl_ne _ _ _ hq) (by exact am_cl_ne _ _ _ hq) (by exact am_cl_ne _ _ _ hq))
      rw [am_en_ob hkd] at hpush
      rw [← hpush] at hP1
      have hk := k lsC H1 locs (cells + 1) (slots + (am_cls x).2.2) ⟨by show 3 ≤ M.2.2.2 + 1; omega, hP1, fun j hj => (congrFun (am_cl_ne M.1 M.2.2.2 0 (by omega : (1 : Nat) ≠ M.2.2.2)) j).trans (hP.2.2.1 j hj), (congrFun (am_cl_ne M.2.2.1 M.2.2.2 0 (by omega : (0 : Nat) ≠ M.2.2.2)) 0).trans hP.2.2.2⟩ hS1 hl (by show cells + 1 + kc = M.2.2.2 + 1; omega) (by show _ = am_sl (M.2.2.2 + 1); omega)
      rw [List.map_cons, am_cvr h3] at hk
      exact hk

theorem am_w_newarray (C : am_Cx b t z L xs D dA X mi d kc R p s m args meth c) {g : ArrayType} (hd : decode (am_mr mi).2.1 pc = .ok (.newarray g, 2)) (h1 : Nat.ble (am_tag g) 4 = true) (h : am_do (.newarray g) 2 x y mi pc ls st M = some (.inl (pc', ls', st', M'))) (hp1 : M'.2.2.2 ≤ R.cells + kc) (hp2 : am_sl M'.2.2.2 ≤ R.slots + ks) (k : am_WW b t z L xs D dA mi p l e R s m args below meth c Q kc ks pc' ls' st' M') : am_WW b t z L xs D dA mi p l e R s m args below meth c Q kc ks pc ls st M := by
  obtain ⟨hx, hb, hml, hown, hts, hSt, hr, hlk, hin, hfr, hlo, hz, hk3⟩ := C
  simp only [am_do] at h
  split at h
  · rename_i n st1
    cases hcf : (decide (0 ≤ n) && Nat.beq (am_kd M.2.2.2).1 (am_tag g) && Nat.beq (am_kd M.2.2.2).2 n.toNatClampNeg && Nat.ble n.toNatClampNeg 100000) with
    | false => rw [hcf] at h; exact nomatch (show (none : Option am_S) = some _ from h)
    | true =>
      rw [hcf] at h
      change am_go _ _ _ _ = _ at h
      cases h
      simp only [Bool.and_eq_true, decide_eq_true_eq] at hcf
      obtain ⟨⟨⟨g1, g2⟩, g3⟩, g4⟩ := hcf
      have g2 : (am_kd M.2.2.2).1 = am_tag g := Nat.eq_of_beq_eq_true g2
      have g3 : (am_kd M.2.2.2).2 = n.toNatClampNeg := Nat.eq_of_beq_eq_true g3
      have g4 : n.toNatClampNeg ≤ 100000 := Nat.le_of_ble_eq_true g4
      have hkd : am_kd M.2.2.2 = (am_tag g, n.toNatClampNeg) := Prod.ext g2 g3
      intro lsC H locs cells slots hP hS hl hc hs
      have h3 : 3 ≤ M.2.2.2 := hP.1
      have hp2 : am_sl (M.2.2.2 + 1) ≤ R.slots + ks := hp2
      have hp1 : M.2.2.2 + 1 ≤ R.cells + kc := hp1
      have hn0 : ¬ n < 0 := Int32.not_lt.mpr g1
      have hpush := am_ws_push (b := b) (t := t) (z := z) (dA := dA) (M := M) (M' := (am_cl M.1 M.2.2.2 0, am_cl M.2.1 M.2.2.2 0, am_cl M.2.2.1 M.2.2.2 0, M.2.2.2 + 1)) h3 rfl (fun q hq => am_en_eq (by exact am_cl_ne _ _ _ hq) (by exact am_cl_ne _ _ _ hq) (by exact am_cl_ne _ _ _ hq))
      have hgo : ∀ (H1 : Heap), va_P D vwCl (am_ws b t z dA (am_cl M.1 M.2.2.2 0, am_cl M.2.1 M.2.2.2 0, am_cl M.2.2.1 M.2.2.2 0, M.2.2.2 + 1)) H1 → va_S (am_A z) s.heap H1 locs → (hsl : am_sl (M.2.2.2 + 1) = am_sl M.2.2.2 + n.toNatClampNeg) → W p l e R s m args below meth c H1 locs (cells + 1) (slots + n.toNatClampNeg) Q (F0 m (pc + 2) lsC (.ref (z + (M.2.2.2 - 3)) :: st1.map (am_cv b t z))) := by
        intro H1 hP1 hS1 hsl
        have hk := k lsC H1 locs (cells + 1) (slots + n.toNatClampNeg) ⟨by show 3 ≤ M.2.2.2 + 1; omega, hP1, fun j hj => (congrFun (am_cl_ne M.1 M.2.2.2 0 (by omega : (1 : Nat) ≠ M.2.2.2)) j).trans (hP.2.2.1 j hj), (congrFun (am_cl_ne M.2.2.1 M.2.2.2 0 (by omega : (0 : Nat) ≠ M.2.2.2)) 0).trans hP.2.2.2⟩ hS1 hl (by show cells + 1 + kc = M.2.2.2 + 1; omega) (by show _ = am_sl (M.2.2.2 + 1); omega)
        rw [List.map_cons, am_cvr h3] at hk
        exact hk
      cases g with
      | int =>
        have hkd : am_kd M.2.2.2 = (1, n.toNatClampNeg) := hkd
        have hsl : am_sl (M.2.2.2 + 1) = am_sl M.2.2.2 + n.toNatClampNeg := by
          show am_sl M.2.2.2 + am_sz M.2.2.2 = _
          unfold am_sz; rw [hkd]; rfl
        refine va_newa (atype := .int) (ty := .int) (a0 := (n.toNatClampNeg, .inl (fun _ => 0))) hx hb (hts _ (am_wd_ok (List.all_eq_true.mp am_jw_ok (_, .arrayClass .int) (List.mem_of_getElem? (i := 16) rfl)))) rfl hSt.1 hP.2.1 (am_ws_D b t z dA M) hS (fun q hq => by show z ≤ q; omega) (fun cA => rfl) hn0 rfl (by show n.toNatClampNeg * 4 ≤ 536870912; omega) (by omega) (by omega) hd (fun q cA H1 hK1 hP1 hD1 hS1 => ?_)
        refine am_Wsz (fun hsz => ?_)
        have hq := am_fresh h3 hz hk3 hc hsz hP1 hD1
        subst hq
        have hcA : cA = dA 1 := by
          have e1 := (hK1.2 0 (dA 1, .int) rfl).2
          have e2 := (hK1.2 4 (cA, .int) rfl).2
          exact Option.some.inj ((show s.vm.findClass ("[" ++ FieldType.int.toString) = some cA from e2).symm.trans (show s.vm.findClass ("[" ++ FieldType.int.toString) = some (dA 1) from e1))
        subst hcA
        rw [am_en_I hkd (by decide) (by decide)] at hpush
        simp only [am_cl_self] at hpush
        rw [← hpush] at hP1
        exact hgo H1 hP1 hS1 hsl
      | long =>
        have hkd : am_kd M.2.2.2 = (2, n.toNatClampNeg) := hkd
        have hsl : am_sl (M.2.2.2 + 1) = am_sl M.2.2.2 + n.toNatClampNeg := by
          show am_sl M.2.2.2 + am_sz M.2.2.2 = _
          unfold am_sz; rw [hkd]; rfl
        refine va_newa (atype := .long) (ty := .long) (a0 := (n.toNatClampNeg, .inr (.inl (fun _ => 0)))) hx hb (hts _ (am_wd_ok (List.all_eq_true.mp am_jw_ok (_, .arrayClass .long) (List.mem_of_getElem? (i := 17) rfl)))) rfl hSt.1 hP.2.1 (am_ws_D b t z dA M) hS (fun q hq => by show z ≤ q; omega) (fun cA => rfl) hn0 rfl (by show n.toNatClampNeg * 8 ≤ 536870912; omega) (by omega) (by omega) hd (fun q cA H1 hK1 hP1 hD1 hS1 => ?_)
        refine am_Wsz (fun hsz => ?_)
        have hq := am_fresh h3 hz hk3 hc hsz hP1 hD1
        subst hq
        have hcA : cA = dA 2 := by
          have e1 := (hK1.2 1 (dA 2, .long) rfl).2
          have e2 := (hK1.2 4 (cA, .long) rfl).2
          exact Option.some.inj ((show s.vm.findClass ("[" ++ FieldType.long.toString) = some cA from e2).symm.trans (show s.vm.findClass ("[" ++ FieldType.long.toString) = some (dA 2) from e1))
        subst hcA
        rw [am_en_J hkd] at hpush
        simp only [am_cl_self] at hpush
        rw [← hpush] at hP1
        exact hgo H1 hP1 hS1 hsl
      | char =>
        have hkd : am_kd M.2.2.2 = (3, n.toNatClampNeg) := hkd
        have hsl : am_sl (M.2.2.2 + 1) = am_sl M.2.2.2 + n.toNatClampNeg := by
          show am_sl M.2.2.2 + am_sz M.2.2.2 = _
          unfold am_sz; rw [hkd]; rfl
        refine va_newa (atype := .char) (ty := .char) (a0 := (n.toNatClampNeg, .inl (fun _ => 0))) hx hb (hts _ (am_wd_ok (List.all_eq_true.mp am_jw_ok (_, .arrayClass .char) (List.mem_of_getElem? (i := 18) rfl)))) rfl hSt.1 hP.2.1 (am_ws_D b t z dA M) hS (fun q hq => by show z ≤ q; omega) (fun cA => rfl) hn0 rfl (by show n.toNatClampNeg * 2 ≤ 536870912; omega) (by omega) (by omega) hd (fun q cA H1 hK1 hP1 hD1 hS1 => ?_)
        refine am_Wsz (fun hsz => ?_)
        have hq := am_fresh h3 hz hk3 hc hsz hP1 hD1
        subst hq
        have hcA : cA = dA 3 := by
          have e1 := (hK1.2 2 (dA 3, .char) rfl).2
          have e2 := (hK1.2 4 (cA, .char) rfl).2
          exact Option.some.inj ((show s.vm.findClass ("[" ++ FieldType.char.toString) = some cA from e2).symm.trans (show s.vm.findClass ("[" ++ FieldType.char.toString) = some (dA 3) from e1))
        subst hcA
        rw [am_en_I hkd (by decide) (by decide)] at hpush
        simp only [am_cl_self] at hpush
        rw [← hpush] at hP1
        exact hgo H1 hP1 hS1 hsl
      | boolean =>
        have hkd : am_kd M.2.2.2 = (4, n.toNatClampNeg) := hkd
        have hsl : am_sl (M.2.2.2 + 1) = am_sl M.2.2.2 + n.toNatClampNeg := by
          show am_sl M.2.2.2 + am_sz M.2.2.2 = _
          unfold am_sz; rw [hkd]; rfl
        refine va_newa (atype := .boolean) (ty := .boolean) (a0 := (n.toNatClampNeg, .inl (fun _ => 0))) hx hb (hts _ (am_wd_ok (List.all_eq_true.mp am_jw_ok (_, .arrayClass .boolean) (List.mem_of_getElem? (i := 19) rfl)))) rfl hSt.1 hP.2.1 (am_ws_D b t z dA M) hS (fun q hq => by show z ≤ q; omega) (fun cA => rfl) hn0 rfl (by show n.toNatClampNeg * 1 ≤ 536870912; omega) (by omega) (by omega) hd (fun q cA H1 hK1 hP1 hD1 hS1 => ?_)
        refine am_Wsz (fun hsz => ?_)
        have hq := am_fresh h3 hz hk3 hc hsz hP1 hD1
        subst hq
        have hcA : cA = dA 4 := by
          have e1 := (hK1.2 3 (dA 4, .boolean) rfl).2
          have e2 := (hK1.2 4 (cA, .boolean) rfl).2
          exact Option.some.inj ((show s.vm.findClass ("[" ++ FieldType.boolean.toString) = some cA from e2).symm.trans (show s.vm.findClass ("[" ++ FieldType.boolean.toString) = some (dA 4) from e1))
        subst hcA
        rw [am_en_I hkd (by decide) (by decide)] at hpush
        simp only [am_cl_self] at hpush
        rw [← hpush] at hP1
        exact hgo H1 hP1 hS1 hsl
      | _ => exact absurd h1 (by decide)
  · exact nomatch h

theorem am_w_arraylength (C : am_Cx b t z L xs D dA X mi d kc R p s m args meth c)  (hd : decode (am_mr mi).2.1 pc = .ok (.arraylength, 1)) (hbz : b < z) (h : am_do (.arraylength) 1 x y mi pc ls st M = some (.inl (pc', ls', st', M')))  (k : am_WW b t z L xs D dA mi p l e R s m args below meth c Q kc ks pc' ls' st' M') : am_WW b t z L xs D dA mi p l e R s m args below meth c Q kc ks pc ls st M := by
  obtain ⟨hx, hb, hml, hown, hts, hSt, hr, hlk, hin, hfr, hlo, hz, hk3⟩ := C
  simp only [am_do] at h
  split at h
  · rename_i a st1
    cases hcf : (Nat.blt a M.2.2.2 && Nat.ble 1 (am_kd a).1 && Nat.ble (am_kd a).1 5) with
    | false => rw [hcf] at h; exact nomatch (show (none : Option am_S) = some _ from h)
    | true =>
      rw [hcf] at h
      change am_go _ _ _ _ = _ at h
      cases h
      simp only [Bool.and_eq_true] at hcf
      obtain ⟨⟨g1, g2⟩, g3⟩ := hcf
      have g1 := Nat.blt_eq.mp g1
      have g2 : 1 ≤ (am_kd a).1 := Nat.le_of_ble_eq_true g2
      have g3 : (am_kd a).1 ≤ 5 := Nat.le_of_ble_eq_true g3
      intro lsC H locs cells slots hP hS hl hc hs
      have k := k lsC H locs cells slots hP hS hl hc hs
      rcases Nat.lt_or_ge (am_kd a).1 5 with g5 | g5
      · have e2 : am_kd a = ((am_kd a).1, (am_kd a).2) := rfl
        have h3 := am_kd3 (c := a) rfl g5
        have hln : am_ln M.2.2.1 a = (am_kd a).2 := by
          unfold am_ln
          have : Nat.beq (am_kd a).1 5 = false := by
            cases hb : Nat.beq (am_kd a).1 5 with
            | false => rfl
            | true => exact absurd (Nat.eq_of_beq_eq_true hb) (by omega)
          rw [this]; rfl
        rw [hln] at k
        have he := am_ws_get (b := b) (t := t) (z := z) (dA := dA) (M := M) h3 g1
        rw [List.map_cons, am_cvr h3]
        have hk1 : (am_kd a).1 = 1 ∨ (am_kd a).1 = 2 ∨ (am_kd a).1 = 3 ∨ (am_kd a).1 = 4 := by omega
        rcases hk1 with q | q | q | q
        · rw [q] at e2
          rw [am_en_I e2 (by decide) (by decide)] at he
          exact va_alen hx hb hSt.1 hP.2.1 (a - 3) 0 he rfl (am_i_nat _).symm hd k
        · rw [q] at e2
          rw [am_en_J e2] at he
          exact va_alen hx hb hSt.1 hP.2.1 (a - 3) 1 he rfl (am_i_nat _).symm hd k
        · rw [q] at e2
          rw [am_en_I e2 (by decide) (by decide)] at he
          exact va_alen hx hb hSt.1 hP.2.1 (a - 3) 2 he rfl (am_i_nat _).symm hd k
        · rw [q] at e2
          rw [am_en_I e2 (by decide) (by decide)] at he
          exact va_alen hx hb hSt.1 hP.2.1 (a - 3) 3 he rfl (am_i_nat _).symm hd k
      · have e1 := am_kd5 (a := a) (by omega)
        subst e1
        have hln : am_ln M.2.2.1 1 = L := hP.2.2.2
        rw [hln, am_i_nat] at k
        exact va_slen (b := b) hx hb hSt.2.1 (by have := hSt.2.2.2.2; omega) (show ¬ z ≤ b by omega) hS hd k
  · exact nomatch h

theorem am_pick_tb {pc : Nat} {x : Int32} {d : Nat} : ∀ (os : List Int) (lo : Int), -2147483648 ≤ lo → lo + os.length ≤ 2147483648 →
    (∀ o, ¬ x.toInt < lo → os[(x.toInt - lo).toNat]? = some o → am_pick x (am_tb pc lo os) d = am_jmp pc o) ∧ ((x.toInt < lo ∨ lo + os.length ≤ x.toInt) → am_pick x (am_tb pc lo os) d = d) := by
  intro os
  induction os with
  | nil =>
    intro lo h1 h2
    exact ⟨fun o _ h => by simp at h, fun _ => rfl⟩
  | cons o0 r ih =>
    intro lo h1 h2
    have h2' : lo + (r.length + 1) ≤ 2147483648 := by simpa using h2
    obtain ⟨i1, i2⟩ := ih (lo + 1) (by omega) (by omega)
    have hiff := am_i_iff (v := lo) h1 (by omega) x
    constructor
    · intro o hge ho
      show (if x = am_i lo then am_jmp pc o0 else am_pick x (am_tb pc (lo + 1) r) d) = _
      by_cases hx : x.toInt = lo
      · rw [if_pos (hiff.mpr hx)]
        rw [hx, Int.sub_self] at ho
        cases ho
        rfl
      · rw [if_neg (fun q => hx (hiff.mp q))]
        have e : (x.toInt - lo).toNat = (x.toInt - (lo + 1)).toNat + 1 := by omega
        rw [e] at ho
        exact i1 o (by omega) ho
    · intro hout
      have hout' : x.toInt < lo ∨ lo + (r.length + 1) ≤ x.toInt := by simpa using hout
      show (if x = am_i lo then am_jmp pc o0 else am_pick x (am_tb pc (lo + 1) r) d) = _
      rw [if_neg (fun q => by have := hiff.mp q; omega)]
      exact i2 (by omega)
theorem am_pick_lb {pc : Nat} {x : Int32} {d : Int} : ∀ (ps : List (Int × Int)), ps.all (fun o => am_i32 o.1 && am_fw pc o.2) = true → am_pick x (am_lb pc ps) (am_jmp pc d) = am_jmp pc (Op.lookupswitch.offset ps d x.toInt) := by
  intro ps
  induction ps with
  | nil => intro _; rfl
  | cons q r ih =>
    intro h
    rw [List.all_cons, Bool.and_eq_true, Bool.and_eq_true] at h
    obtain ⟨⟨h1, -⟩, h2⟩ := h
    unfold am_i32 at h1
    simp only [Bool.and_eq_true, decide_eq_true_eq] at h1
    obtain ⟨a, o⟩ := q
    show (if x = am_i a then am_jmp pc o else am_pick x (am_lb pc r) (am_jmp pc d)) = _
    rw [Op.lookupswitch.offset_cons]
    have hiff := am_i_iff (v := a) h1.1 h1.2 x
    by_cases hx : a = x.toInt
    · rw [if_pos (hiff.mpr hx.symm), if_pos hx]
    · rw [if_neg (fun q => hx (hiff.mp q).symm), if_neg hx]
      exact ih h2
theorem am_lb_fw {pc : Nat} {d : Int} (hd : am_fw pc d = true) (k : Int) : ∀ (ps : List (Int × Int)), ps.all (fun o => am_i32 o.1 && am_fw pc o.2) = true → am_fw pc (Op.lookupswitch.offset ps d k) = true := by
  intro ps
  induction ps with
  | nil => intro _; exact hd
  | cons q r ih =>
    intro h
    rw [List.all_cons, Bool.and_eq_true, Bool.and_eq_true] at h
    obtain ⟨a, o⟩ := q
    rw [Op.lookupswitch.offset_cons]
    split
    · exact h.1.2
    · exact ih h.2
theorem am_w_tableswitch (C : am_Cx b t z L xs D dA X mi d kc R p s m args meth c) {dd lo hi : Int} {os : Array Int} {n : Nat} (hd : decode (am_mr mi).2.1 pc = .ok (.tableswitch dd lo hi os, n)) (h1 : am_opk (am_mc mi) pc (.tableswitch dd lo hi os) n x y = true) (h : am_do (.tableswitch dd lo hi os) n x y mi pc ls st M = some (.inl (pc', ls', st', M')))  (k : am_WW b t z L xs D dA mi p l e R s m args below meth c Q kc ks pc' ls' st' M') : am_WW b t z L xs D dA mi p l e R s m args below meth c Q kc ks pc ls st M := by
  obtain ⟨hx, hb, hml, hown, hts, hSt, hr, hlk, hin, hfr, hlo, hz, hk3⟩ := C
  simp only [am_opk, Bool.and_eq_true] at h1
  obtain ⟨g1, g2, g3, g4, g5⟩ := h1
  unfold am_i32 at g2 g3
  simp only [Bool.and_eq_true, decide_eq_true_eq] at g2 g3 g4
  simp only [am_do] at h
  split at h
  · rename_i v st1
    cases h
    intro lsC H locs cells slots hP hS hl hc hs
    have k := k lsC H locs cells slots hP hS hl hc hs
    have hlen : os.toList.length = os.size := Array.length_toList
    obtain ⟨i1, i2⟩ := am_pick_tb (pc := pc) (x := v) (d := am_jmp pc dd) os.toList lo (by omega) (by rw [hlen]; omega)
    by_cases hlt : v.toInt < lo
    · rw [i2 (Or.inl hlt)] at k
      exact lv_tableOut hx hb hd (Or.inl hlt) (am_fw_ok g1) k
    · by_cases hgt : hi < v.toInt
      · rw [i2 (Or.inr (by rw [hlen]; omega))] at k
        exact lv_tableOut hx hb hd (Or.inr hgt) (am_fw_ok g1) k
      · have hin2 : (v.toInt - lo).toNat < os.toList.length := by rw [hlen]; omega
        have ho : os.toList[(v.toInt - lo).toNat]? = some os.toList[(v.toInt - lo).toNat] := List.getElem?_eq_getElem hin2
        rw [i1 _ hlt ho] at k
        exact lv_tableIn hx hb hd hlt hgt (by rw [← Array.getElem?_toList]; exact ho) (am_fw_ok (List.all_eq_true.mp g5 _ (List.getElem_mem hin2))) k
  · exact nomatch h

theorem am_w_lookupswitch (C : am_Cx b t z L xs D dA X mi d kc R p s m args meth c) {dd : Int} {os : Array (Int × Int)} {n : Nat} (hd : decode (am_mr mi).2.1 pc = .ok (.lookupswitch dd os, n)) (h1 : am_opk (am_mc mi) pc (.lookupswitch dd os) n x y = true) (h : am_do (.lookupswitch dd os) n x y mi pc ls st M = some (.inl (pc', ls', st', M')))  (k : am_WW b t z L xs D dA mi p l e R s m args below meth c Q kc ks pc' ls' st' M') : am_WW b t z L xs D dA mi p l e R s m args below meth c Q kc ks pc ls st M := by
  obtain ⟨hx, hb, hml, hown, hts, hSt, hr, hlk, hin, hfr, hlo, hz, hk3⟩ := C
  simp only [am_opk, Bool.and_eq_true] at h1
  obtain ⟨g1, g2, g3⟩ := h1
  simp only [am_do] at h
  split at h
  · rename_i v st1
    cases h
    intro lsC H locs cells slots hP hS hl hc hs
    have k := k lsC H locs cells slots hP hS hl hc hs
    rw [am_pick_lb os.toList g3] at k
    exact lv_lookup hx hb hd g2 rfl (am_fw_ok (am_lb_fw g1 _ _ g3)) k
  · exact nomatch h

end AMN
