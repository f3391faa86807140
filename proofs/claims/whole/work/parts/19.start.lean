/-! THE CLAIM OUT OF ONE WALK OF THE LAW'S BODY. Your part is whole_start (and what it stands on); all else here is the same for every law, but numbers. -/
def R_law : String := "CelloBoatsLaw"
def lw_P (b : Addr) (xs : List Int32) (args : Array Value) (s : State) : Prop := args = #[.ref b] ∧ s.IntsAt b xs ∧ xs.length ≤ 3072 ∧ (Jvm.Cond.and given_1 narrow_1).before args s = true
def lw_Q (_ : Array Value) (s : State) (o : Outcome) (t : State) : Prop := o = .returned (some (.int 1)) ∧ Framed s o t [] 600000 7302250
def lw_Z (below : List Frame) (a : Array Value) (s : State) : State → Prop := fun t => ∃ o, t.status = .running ∧ Ended t below o ∧ lw_Q a s o t
/-- the law's own end, with 1 on the stack, nothing written that was there before, its room as the claim has it -/
theorem lw_ret {p : Program} {l : Launch} {e : Env} {s : State} {m : MethodId} {below : List Frame} {meth : Method} {c : Code} {b : Nat} (hx : p.tables.exec = Jvm.exec) (hb : c.code = code) (hr : meth.sig.returnType = ret) (hlocks : meth.locks = false) {pc : Nat} {H : Heap} {ls : Array Slot} (hdg : decode code pc = .ok (.ireturn, 1)) : W p l e room_1 s m #[Value.ref b] below meth c H [] 600000 7302250 (lw_Z below #[Value.ref b] s) (F0 m pc ls [.int 1]) := by
  intro T hT X
  obtain ⟨fs, hret, hrun, hended, hW, hframe⟩ := X.leave (v := some (.int 1)) (hlocks := hlocks) (fun h => by rw [hr] at h; cases h)
  have hmeth' : T.vm.method? m = some meth := X.method'
  refine ⟨T.setFrames fs, ?_, .returned (some (.int 1)), hrun, hended, rfl, ⟨_, rfl⟩, hW, hframe⟩
  jvm_step X.here [X.here.top, hx, hb, hdg, hmeth', hr, ret, narrow_b1]
  (try refine ⟨rfl, ?_⟩); (try refine ⟨rfl, ?_⟩)
  first | (intro acts; rw [hret _ acts rfl rfl rfl]) | rw [hret _ _ rfl rfl rfl]
  exact Steps.refl _
/-- what holds at the law's entry: the machine, the code, the tables' words (any of lw_tbl by 'hts w (by decide +kernel)'), the script of L ints xs at the cell b, what the Statement gives of the start (any of its parts by flat_of_before) -/
def lw_At (p : Program) (s : State) (m : MethodId) (meth : Method) (c : Code) (b L : Nat) (xs : Nat → Int32) : Prop :=
  p.tables.exec = Jvm.exec ∧ c.code = code ∧ meth.sig.returnType = ret ∧ c.maxLocals = 4 ∧ s.vm.findClass R_law = some m.cls ∧ (∀ w ∈ lw_tbl, w.before #[Value.ref b] s = true) ∧ va_X b L xs s s.heap ∧ b < s.heap.size ∧ meth.locks = false ∧ (Jvm.Cond.and given_1 narrow_1).before #[Value.ref b] s = true
/-! ===== from the abstract machine to the law's walk ===== -/
def am_M0 (L : Nat) (xs : Nat → Int32) : am_Mem := (fun c j => if c = 1 then xs j else 0, fun _ _ => 0, fun c _ => if c = 0 then L else 0, 3)
/-- what is owed of the abstract machine: the law's run there ends with 1 -/
def am_Goal : Prop := ∀ (L : Nat) (xs : Nat → Int32), L ≤ 3072 → ∃ M', am_E 1000 296 0 [(0, .ref 1)] [] (am_M0 L xs) = some (some (.int 1), M') ∧ M'.2.2.2 ≤ 138
theorem am_TB_sub : ∀ w ∈ am_TB, w ∈ lw_tbl := fun w h => (List.mem_filter.mp h).1
theorem am_arr {s : State} {args : Array Value} {ty : FieldType} (h : (Cond.arrayClass ty).before args s = true) (hty : ∀ C, ty ≠ .object C) : ∃ cA, ArrOfT s cA ty ∧ va_RA s cA ty := by
  obtain ⟨cA, kA, comp, hfind, hk, hkind⟩ := Cond.arrayClass_spec h
  refine ⟨cA, fun n z => ⟨fun k h => (by cases h), kA, hk, comp, hkind⟩, ?_⟩
  cases ty with
  | object C => exact absurd rfl (hty C)
  | _ => exact hfind
def am_tm : Term := .string "CelloBoats$Scan" 22
set_option maxRecDepth 100000 in
theorem am_fl1 : Cond.exactly am_tm "java/lang/String" ∈ flatC (Jvm.Cond.and given_1 narrow_1) ∧ Cond.eq (.field am_tm "java/lang/String" "coder" "B") (.int 0) ∈ flatC (Jvm.Cond.and given_1 narrow_1) ∧ Cond.arrayOf (.field am_tm "java/lang/String" "value" "[B") .byte ∈ flatC (Jvm.Cond.and given_1 narrow_1) ∧ Cond.eq (.length (.field am_tm "java/lang/String" "value" "[B")) (.int (Int32.ofNat 166)) ∈ flatC (Jvm.Cond.and given_1 narrow_1) ∧
    Cond.eq (.static "java/lang/String" "COMPACT_STRINGS" "Z") (.int 1) ∈ flatC (Jvm.Cond.and given_1 narrow_1) ∧ Cond.isRef (.static "jdk/internal/util/Preconditions" "SIOOBE_FORMATTER" "Ljava/util/function/BiFunction;") ∈ flatC (Jvm.Cond.and given_1 narrow_1) := by decide +kernel
set_option maxRecDepth 100000 in
theorem am_fl3 : (flatC (Jvm.Cond.and given_1 narrow_1)).drop 13 = (List.range 166).map (fun j => Cond.eq (.elem (.field am_tm "java/lang/String" "value" "[B") (.int (Int32.ofNat j))) (.int (am_by.getD j 0))) := by decide +kernel
theorem am_fl2 (j : Nat) (hj : j < 166) : Cond.eq (.elem (.field am_tm "java/lang/String" "value" "[B") (.int (Int32.ofNat j))) (.int (am_by.getD j 0)) ∈ flatC (Jvm.Cond.and given_1 narrow_1) := by
  apply List.mem_of_mem_drop (i := 13)
  rw [am_fl3]
  exact List.mem_map.mpr ⟨j, List.mem_range.mpr hj, rfl⟩
theorem am_Xt_of {s : State} {b : Nat} (hts : ∀ w ∈ lw_tbl, w.before #[Value.ref b] s = true) (hgv : (Jvm.Cond.and given_1 narrow_1).before #[Value.ref b] s = true) : ∃ t v, am_Xt t v s.heap.size s := by
  have hs := flat_of_before _ hgv
  have hA : ∀ a : Nat, a < s.heap.size → ¬ am_A s.heap.size a := fun a h q => absurd h (Nat.not_lt.mpr q)
  have e166 : ([am_str.length] : List Nat).getD 0 0 = 166 := tx_len
  have hi0 : ∀ i : Nat, i < 1 → i = 0 := fun i h => by omega
  obtain ⟨adK, adV, hS, hev⟩ := vk_Sof (args := #[Value.ref b]) (s := s) (N := 1) (tm := fun _ => am_tm) (len := [am_str.length]) (byt := [am_by]) (A := am_A s.heap.size)
    (fun i hi => by rw [hi0 i hi, e166]; decide) (fun i _ => hs _ am_fl1.1) (fun i _ => hs _ am_fl1.2.1) (fun i _ => hs _ am_fl1.2.2.1) (fun i hi => by rw [hi0 i hi, e166]; exact hs _ am_fl1.2.2.2.1)
    (fun i hi j hj => by rw [hi0 i hi] at hj ⊢; rw [e166] at hj; exact hs _ (am_fl2 j hj)) (fun i j hi hj hne => absurd ((hi0 i hi).trans (hi0 j hj).symm) hne) hA
  refine ⟨adK 0, adV 0, vk_R.of (hts _ (am_tab_mem (p := 35) rfl)) (hev 0 (by decide)), ⟨fun i hi => by rw [hi0 i hi]; exact hS.1 0 (by decide), fun i j hi hj _ => (hi0 i hi).trans (hi0 j hj).symm⟩, va_Zof (hts _ (am_tab_mem (p := 45) rfl)) (hts _ (am_tab_mem (p := 3) rfl)) (va_eqi (hs _ am_fl1.2.2.2.2.1)) hA, va_Zqof (hts _ (am_tab_mem (p := 61) rfl)) (hts _ (am_tab_mem (p := 5) rfl)) (hs _ am_fl1.2.2.2.2.2) hA⟩
theorem am_K_of {s : State} {b : Nat} (hts : ∀ w ∈ lw_tbl, w.before #[Value.ref b] s = true) : ∃ (D : va_G) (dA : Nat → ClassId), va_K D vwCl (am_tys dA) s := by
  have h0 : ∀ c : Nat, ∃ q : ClassId × (Nat → Nat), c < 13 → u_Kn s (am_cls c).1 (am_cls c).2.1 (am_cls c).2.2 q.1 q.2 := by
    intro c
    by_cases hc : c < 13
    · obtain ⟨c1, -, c3, -⟩ := am_cls_spec hc
      obtain ⟨cC, iS, h⟩ := u_known (C := (am_cls c).1) (T := (am_cls c).2.1) (N := (am_cls c).2.2) hts (fun w hw => am_TB_sub w (c3 w hw)) (hts _ (am_TB_sub _ c1))
      exact ⟨(cC, iS), fun _ => h⟩
    · exact ⟨(0, fun _ => 0), fun h => absurd h hc⟩
  obtain ⟨f, hf⟩ := Classical.axiomOfChoice h0
  obtain ⟨c1, a1, r1⟩ := am_arr (ty := .int) (hts _ (am_TB_sub _ (am_jw_at (i := 16) rfl))) (fun C h => nomatch h)
  obtain ⟨c2, a2, r2⟩ := am_arr (ty := .long) (hts _ (am_TB_sub _ (am_jw_at (i := 17) rfl))) (fun C h => nomatch h)
  obtain ⟨c3, a3, r3⟩ := am_arr (ty := .char) (hts _ (am_TB_sub _ (am_jw_at (i := 18) rfl))) (fun C h => nomatch h)
  obtain ⟨c4, a4, r4⟩ := am_arr (ty := .boolean) (hts _ (am_TB_sub _ (am_jw_at (i := 19) rfl))) (fun C h => nomatch h)
  refine ⟨(fun c => (f c).1, fun c => (f c).2), fun g => match g with | 1 => c1 | 2 => c2 | 3 => c3 | _ => c4, fun c q hq => ?_, fun k q hk => ?_⟩
  · have hc : c < 13 := by
      have := (List.getElem?_eq_some_iff.mp hq).1
      exact this
    have e : q = am_cls c := Option.some.inj (hq.symm.trans (am_cls_get hc))
    subst e
    exact hf c hc
  · match k, hk with
    | 0, hk => cases hk; exact ⟨a1, r1⟩
    | 1, hk => cases hk; exact ⟨a2, r2⟩
    | 2, hk => cases hk; exact ⟨a3, r3⟩
    | 3, hk => cases hk; exact ⟨a4, r4⟩
set_option maxRecDepth 100000 in
theorem am_sl138 : am_sl 138 ≤ 7302250 := by decide +kernel
theorem am_sl3 : am_sl 3 = 0 := by decide +kernel
theorem am_start {p : Program} {e : Env} {s : State} {m : MethodId} {below : List Frame} {meth : Method} {c : Code} (hG : am_Goal) (l : Launch) (hflags : l.flags = flags0) {b L : Nat} {xs : Nat → Int32} (hL : L ≤ 3072) (C0 : lw_At p s m meth c b L xs) : W p l e room_1 s m #[Value.ref b] below meth c s.heap [] 0 0 (lw_Z below #[Value.ref b] s) (entryFrame m ([Value.ref b] : List Value).toArray 4) := by
  obtain ⟨hx, hb, hr, hml, hown, hts, hX, hbl, hlocks, hgv⟩ := C0
  obtain ⟨t, v, hXt⟩ := am_Xt_of hts hgv
  obtain ⟨D, dA, hK⟩ := am_K_of hts
  obtain ⟨M', hE, hn⟩ := hG L xs hL
  obtain ⟨n, hev⟩ := am_E_iff.mp hE
  have hSt : am_St b t s.heap.size L xs D dA (am_Xt t v s.heap.size) s := ⟨hK, hX, fun q hq hk => by
    have h5 := List.all_eq_true.mp am_L_ok q hq
    unfold am_chkL at h5
    rw [hk] at h5
    change (_ && _) = true at h5
    rw [Bool.and_eq_true] at h5
    exact va_Nw.of rfl (hts _ (am_tab_mem (of_decide_eq_true h5.1))), hXt, Nat.le_refl _⟩
  have C : am_Cx b t s.heap.size L xs D dA (am_Xt t v s.heap.size) 296 1000 3 room_1 p s m #[Value.ref b] meth c :=
    ⟨hx, hb, hml, hown, fun w hw => hts w (am_TB_sub w hw), hSt, hr, hlocks, fun h => absurd (show (3 : Nat) = 2 from h) (by decide), by show 1000 + 8 ≤ 2048; decide, by show 64 * (1000 + 8) ≤ 84000; decide, rfl, Nat.le_refl 3⟩
  have hl := lv_entry ([Value.ref b] : List Value) (n := 4) (Nat.le_of_ble_eq_true rfl)
  rw [lg_entry_eq]
  have hsl := am_sl_mono hn
  have h138 := am_sl138
  have hR0 : am_Rp b t s.heap.size L xs D dA (am_M0 L xs) s.heap := ⟨Nat.le_refl 3, fun k q hk => absurd (show ([] : va_W)[k]? = some q from hk) (by simp), fun j _ => rfl, rfl⟩
  refine am_sound (am_TX_ok l b t v s.heap.size L xs D dA) (am_Xt_XX t v s.heap.size) (by omega) hbl n 1000 296 0 [(0, .ref 1)] [] (am_M0 L xs) (some (.int 1)) M' hev p e room_1 s m #[Value.ref b] below meth c (lw_Z below #[Value.ref b] s) 3 0 C (by show M'.2.2.2 ≤ 600000 + 3; omega) (by show am_sl M'.2.2.2 ≤ 7302250 + 0; omega) ?_ _ s.heap [] 0 0 hR0 va_S.rf hl rfl am_sl3.symm
  intro pc2 lsC H locs cells slots hP hS hls hc hs hre
  refine va_forget (fun q hq => hS.2.2 q hq) ?_
  refine W.widen (k := 600000) (n := 7302250) (by omega) (by omega) ?_
  exact lw_ret hx hb hr hlocks hre.1
