/-! ===== the abstract memory and the heap ===== -/
def am_ad (b t z c : Nat) : Nat := match c with
  | 0 => 0
  | 1 => b
  | 2 => t
  | c + 3 => z + c
def am_cv (b t z : Nat) (v : Value) : Value := match v with
  | .ref 0 => .null
  | .ref (c + 1) => .ref (am_ad b t z (c + 1))
  | v => v
def am_cm (b t z : Nat) (ls : am_Ls) : List (Nat × Value) := ls.map (fun q => (q.1, am_cv b t z q.2))
def am_fv (b t z : Nat) (M : am_Mem) (c k ty : Nat) : Value := match ty with
  | 2 => .long (M.2.1 c k)
  | 3 => am_cv b t z (.ref (M.2.2.1 c k))
  | _ => .int (M.1 c k)
def am_fs (b t z : Nat) (M : am_Mem) (c ci : Nat) : List Value := (List.range (am_cls ci).2.2).map (fun k => am_fv b t z M c k (am_fty ci k).1)
def am_en (b t z : Nat) (dA : Nat → ClassId) (M : am_Mem) (c : Nat) : va_E := match am_kd c with
  | (0, ci) => .inr (ci, am_fs b t z M c ci)
  | (2, n) => .inl (dA 2, n, .inr (.inl (M.2.1 c)))
  | (g, n) => .inl (dA g, n, .inl (M.1 c))
def am_ws (b t z : Nat) (dA : Nat → ClassId) (M : am_Mem) : va_W := (List.range (M.2.2.2 - 3)).map (fun j => (z + j, am_en b t z dA M (j + 3)))
def am_Rp (b t z L : Nat) (xs : Nat → Int32) (D : va_G) (dA : Nat → ClassId) (M : am_Mem) (H : Heap) : Prop := 3 ≤ M.2.2.2 ∧ va_P D vwCl (am_ws b t z dA M) H ∧ (∀ j, j < L → M.1 1 j = xs j) ∧ M.2.2.1 0 0 = L
def am_A (z : Nat) : Nat → Prop := fun q => z ≤ q
theorem am_cv_cat (b t z : Nat) (v : Value) : (am_cv b t z v).category = v.category := by
  cases v with
  | ref c => cases c <;> rfl
  | _ => rfl
theorem am_cm_st1 (b t z : Nat) (ls : am_Ls) (i : Nat) (v : Value) : am_cm b t z (am_st1 ls i v) = (i, am_cv b t z v) :: (am_cm b t z ls).filter (fun q => !(q.1 == i) && !(q.1 + 1 == i && q.2.category == 2)) := by
  unfold am_cm am_st1
  rw [List.map_cons, List.filter_map]
  simp only [Function.comp_def, am_cv_cat]
theorem am_cm_st2 (b t z : Nat) (ls : am_Ls) (i : Nat) (v : Value) : am_cm b t z (am_st2 ls i v) = (i, am_cv b t z v) :: (am_cm b t z ls).filter (fun q => !(q.1 == i) && (!(q.1 == i + 1) && !(q.1 + 1 == i && q.2.category == 2))) := by
  unfold am_cm am_st2
  rw [List.map_cons, List.filter_map]
  simp only [Function.comp_def, am_cv_cat]
theorem am_find_mem {α : Type} : ∀ (l : List (Nat × α)) (k : Nat) {v : α}, am_find l k = some v → (k, v) ∈ l
  | [], _, _, h => by cases h
  | q :: r, k, v, h => by
    unfold am_find at h
    cases hb : Nat.beq q.1 k with
    | true =>
      rw [hb] at h
      have e : q.1 = k := Nat.eq_of_beq_eq_true hb
      cases h
      rw [← e]
      exact List.mem_cons_self
    | false =>
      rw [hb] at h
      exact List.mem_cons_of_mem _ (am_find_mem r k h)
theorem am_loc {b t z nL : Nat} {lsC : Array Slot} {ls : am_Ls} (hl : lv_has lsC nL (am_cm b t z ls)) {k : Nat} {v : Value} (h : am_find ls k = some v) : lsC[k]? = some (.val (am_cv b t z v)) :=
  hl.2.2 (k, am_cv b t z v) (List.mem_map.mpr ⟨(k, v), am_find_mem ls k h, rfl⟩)
theorem am_ws_len (b t z : Nat) (dA : Nat → ClassId) (M : am_Mem) : (am_ws b t z dA M).length = M.2.2.2 - 3 := by simp [am_ws]
theorem am_ws_get {b t z : Nat} {dA : Nat → ClassId} {M : am_Mem} {c : Nat} (h3 : 3 ≤ c) (hc : c < M.2.2.2) : (am_ws b t z dA M)[c - 3]? = some (z + (c - 3), am_en b t z dA M c) := by
  unfold am_ws
  rw [List.getElem?_map, List.getElem?_range (by omega)]
  simp only [Option.map_some, Option.some.injEq, Prod.mk.injEq, true_and]
  rw [Nat.sub_add_cancel h3]
theorem am_ws_D (b t z : Nat) (dA : Nat → ClassId) (M : am_Mem) : va_D (am_A z) (am_ws b t z dA M) := by
  have key : ∀ (k : Nat) (q : Nat × va_E), (am_ws b t z dA M)[k]? = some q → q.1 = z + k := by
    intro k q h
    unfold am_ws at h
    rw [List.getElem?_map] at h
    cases hk : (List.range (M.2.2.2 - 3))[k]? with
    | none => rw [hk] at h; cases h
    | some j =>
      rw [hk] at h
      obtain ⟨hlt, hj⟩ := List.getElem?_eq_some_iff.mp hk
      rw [List.getElem_range] at hj
      cases h
      rw [hj]
  refine ⟨fun i j p q hp hq e => ?_, fun k q hk => ?_⟩
  · have a := key i p hp
    have b := key j q hq
    omega
  · show z ≤ q.1
    rw [key k q hk]
    exact Nat.le_add_right z k
theorem am_ws_set {b t z : Nat} {dA : Nat → ClassId} {M M' : am_Mem} {c : Nat} (h3 : 3 ≤ c) (hc : c < M.2.2.2) (hn : M'.2.2.2 = M.2.2.2) (ho : ∀ x, x ≠ c → am_en b t z dA M' x = am_en b t z dA M x) : am_ws b t z dA M' = (am_ws b t z dA M).set (c - 3) (z + (c - 3), am_en b t z dA M' c) := by
  apply List.ext_getElem?
  intro k
  by_cases hk : k = c - 3
  · subst hk
    rw [am_ws_get h3 (by rw [hn]; exact hc), List.getElem?_set_self (by rw [am_ws_len]; omega)]
  · rw [List.getElem?_set_ne (fun e => hk e.symm)]
    unfold am_ws
    rw [hn, List.getElem?_map, List.getElem?_map]
    cases hr : (List.range (M.2.2.2 - 3))[k]? with
    | none => rfl
    | some j =>
      obtain ⟨hlt, hj⟩ := List.getElem?_eq_some_iff.mp hr
      rw [List.getElem_range] at hj
      simp only [Option.map_some, Option.some.injEq, Prod.mk.injEq, true_and]
      exact ho _ (by omega)
theorem am_ws_push {b t z : Nat} {dA : Nat → ClassId} {M M' : am_Mem} (h3 : 3 ≤ M.2.2.2) (hn : M'.2.2.2 = M.2.2.2 + 1) (ho : ∀ x, x ≠ M.2.2.2 → am_en b t z dA M' x = am_en b t z dA M x) : am_ws b t z dA M' = am_ws b t z dA M ++ [(z + (M.2.2.2 - 3), am_en b t z dA M' M.2.2.2)] := by
  unfold am_ws
  rw [hn, show M.2.2.2 + 1 - 3 = (M.2.2.2 - 3) + 1 by omega, List.range_succ, List.map_append]
  congr 1
  · apply List.map_congr_left
    intro j hj
    have hj2 := List.mem_range.mp hj
    rw [ho (j + 3) (by omega)]
  · simp only [List.map_cons, List.map_nil]
    rw [Nat.sub_add_cancel h3]
/-- what two memories give at a cell is the same where the numbers are -/
theorem am_en_eq {b t z : Nat} {dA : Nat → ClassId} {M M' : am_Mem} {c : Nat} (h1 : M'.1 c = M.1 c) (h2 : M'.2.1 c = M.2.1 c) (h3 : M'.2.2.1 c = M.2.2.1 c) : am_en b t z dA M' c = am_en b t z dA M c := by
  unfold am_en am_fs am_fv
  simp only [h1, h2, h3]
theorem am_up_ne {α : Type} (f : Nat → Nat → α) (a k : Nat) (v : α) {c : Nat} (h : c ≠ a) : am_up f a k v c = f c := by
  funext j; simp [am_up, h]
theorem am_cl_ne {α : Type} (f : Nat → Nat → α) (a : Nat) (v : α) {c : Nat} (h : c ≠ a) : am_cl f a v c = f c := by
  funext j; simp [am_cl, h]
theorem am_cp_ne (f : Nat → Nat → Int32) (a0 sp a dp n : Nat) {c : Nat} (h : c ≠ a) : am_cp f a0 sp a dp n c = f c := by
  funext j; simp [am_cp, h]
theorem am_up_self {α : Type} (f : Nat → Nat → α) (a k : Nat) (v : α) : am_up f a k v a = fun j => if j = k then v else f a j := by
  funext j; simp [am_up]
/-- the kinds -/
theorem am_kd3 {c : Nat} {q : Nat × Nat} (h : am_kd c = q) (hq : q.1 < 5) : 3 ≤ c := by
  rcases c with _ | _ | _ | c
  · subst h; exact absurd hq (by decide)
  · subst h; exact absurd hq (by decide)
  · subst h; exact absurd hq (by decide)
  · omega
theorem am_cf_spec {n a ci : Nat} (h : am_cf n a ci = true) : am_kd a = (0, ci) ∧ 3 ≤ a ∧ a < n := by
  unfold am_cf at h
  simp only [Bool.and_eq_true] at h
  obtain ⟨h0, h1, h2⟩ := h
  have e1 : (am_kd a).1 = 0 := Nat.eq_of_beq_eq_true h1
  have e2 : (am_kd a).2 = ci := Nat.eq_of_beq_eq_true h2
  have e : am_kd a = (0, ci) := Prod.ext e1 e2
  exact ⟨e, am_kd3 e (by show 0 < 5; omega), Nat.blt_eq.mp h0⟩
theorem am_ok_spec {i : Int32} {n : Nat} (h : am_ok i n = true) : vp_in i n ∧ i.toNatClampNeg < n := by
  unfold am_ok at h
  simp only [Bool.and_eq_true, decide_eq_true_eq] at h
  refine ⟨fun q => ?_, h.2⟩
  rcases q with q | q
  · exact absurd h.1 (Int32.not_le.mpr q)
  · omega
theorem am_ad3 {b t z c : Nat} (h : 3 ≤ c) : am_ad b t z c = z + (c - 3) := by
  obtain ⟨k, rfl⟩ : ∃ k, c = k + 3 := ⟨c - 3, by omega⟩
  show z + k = z + (k + 3 - 3)
  omega
theorem am_cvr {b t z c : Nat} (h : 3 ≤ c) : am_cv b t z (.ref c) = .ref (z + (c - 3)) := by
  obtain ⟨k, rfl⟩ : ∃ k, c = k + 1 := ⟨c - 1, by omega⟩
  show Value.ref (am_ad b t z (k + 1)) = _
  rw [am_ad3 h]
theorem am_en_ob {b t z : Nat} {dA : Nat → ClassId} {M : am_Mem} {c ci : Nat} (h : am_kd c = (0, ci)) : am_en b t z dA M c = .inr (ci, am_fs b t z M c ci) := by
  unfold am_en; rw [h]; rfl
theorem am_en_J {b t z : Nat} {dA : Nat → ClassId} {M : am_Mem} {c n : Nat} (h : am_kd c = (2, n)) : am_en b t z dA M c = .inl (dA 2, n, .inr (.inl (M.2.1 c))) := by
  unfold am_en; rw [h]; rfl
theorem am_en_I {b t z : Nat} {dA : Nat → ClassId} {M : am_Mem} {c g n : Nat} (h : am_kd c = (g, n)) (h0 : g ≠ 0) (h2 : g ≠ 2) : am_en b t z dA M c = .inl (dA g, n, .inl (M.1 c)) := by
  unfold am_en; rw [h]
  match g, h0, h2 with
  | 1, _, _ => rfl
  | g + 3, _, _ => rfl
def am_sz (c : Nat) : Nat := match am_kd c with
  | (0, ci) => (am_cls ci).2.2
  | (_, n) => n
def am_sl : Nat → Nat
  | 0 => 0
  | n + 1 => am_sl n + am_sz n
def am_tys (dA : Nat → ClassId) : List (ClassId × FieldType) := [(dA 1, .int), (dA 2, .long), (dA 3, .char), (dA 4, .boolean)]
def am_St (b t z L : Nat) (xs : Nat → Int32) (D : va_G) (dA : Nat → ClassId) (X : State → Prop) (U : State) : Prop :=
  va_K D vwCl (am_tys dA) U ∧ va_X b L xs U U.heap ∧ (∀ q ∈ am_ML, q.2.2.1 = 4 → va_Nw (.methodLinkNest (am_on (q.1 / 100000)) (q.1 % 100000) (am_mr q.2.1).1 "CelloBoats") U) ∧ X U ∧ z ≤ U.heap.size
def am_Cx (b t z L : Nat) (xs : Nat → Int32) (D : va_G) (dA : Nat → ClassId) (X : State → Prop) (mi d kc : Nat) (R : Room) (p : Program) (s : State) (m : MethodId) (args : Array Value) (meth : Method) (c : Code) : Prop :=
  p.tables.exec = Jvm.exec ∧ c.code = (am_mr mi).2.1 ∧ c.maxLocals = am_ml mi ∧ s.vm.findClass (am_on (am_mc mi)) = some m.cls ∧ (∀ w ∈ am_TB, w.before args s = true) ∧ am_St b t z L xs D dA X s ∧ meth.sig.returnType = am_rt mi ∧ meth.locks = false ∧ (am_mk mi = 2 → meth.name = "<init>") ∧ d + 8 ≤ R.frames ∧ 64 * (d + 8) ≤ R.locals ∧ s.heap.size = z + (kc - 3) ∧ 3 ≤ kc
