/-! ===== a run of the abstract machine is a run of the machine ===== -/
def am_Re (mi : Nat) (r : Option Value) (pc : Nat) : Prop := match r with
  | some (.int v) => decode (am_mr mi).2.1 pc = .ok (.ireturn, 1) ∧ (am_rt mi = some .int ∨ (am_rt mi = some .boolean ∧ am_zb v = true))
  | some (.long _) => decode (am_mr mi).2.1 pc = .ok (.lreturn, 1) ∧ am_rt mi = some .long
  | none => decode (am_mr mi).2.1 pc = .ok (.return_, 1) ∧ am_rt mi = none
  | _ => False
def am_Qr (b t z L : Nat) (xs : Nat → Int32) (D : va_G) (dA : Nat → ClassId) (r : Option Value) (M1 : am_Mem) : Array Value → State → Outcome → State → Prop := match r with
  | some (.int v) => va_Qi (fun w (_ : Unit) => w = v) (fun _ u => am_Rp b t z L xs D dA M1 u.heap) (am_A z)
  | some (.long v) => va_Ql (fun w (_ : Unit) => w = v) (fun _ u => am_Rp b t z L xs D dA M1 u.heap) (am_A z)
  | _ => va_Qv (fun (_ : Unit) => True) (fun _ u => am_Rp b t z L xs D dA M1 u.heap) (am_A z)
def am_Pc (b t z L : Nat) (xs : Nat → Int32) (D : va_G) (dA : Nat → ClassId) (X : State → Prop) (as : List Value) (M : am_Mem) : Array Value → State → Prop := va_Pc (as.map (am_cv b t z)) (fun U => U.heap.size = z + (M.2.2.2 - 3) ∧ am_Rp b t z L xs D dA M U.heap ∧ am_St b t z L xs D dA X U)
def am_rm (d mc ms : Nat) : Room := { frames := d + 8, cells := mc, slots := ms, locals := 64 * (d + 8) }
theorem am_rm_f (d mc ms : Nat) : (am_rm d mc ms).frames = d + 8 := rfl
theorem am_rm_l (d mc ms : Nat) : (am_rm d mc ms).locals = 64 * (d + 8) := rfl
def am_wl (mj : Nat) : List Cond := Cond.code (am_mr mj).1 (am_mr mj).2.1 (am_ml mj) (am_rt mj) :: am_TB
def am_Mt (l : Launch) (b t z L : Nat) (xs : Nat → Int32) (D : va_G) (dA : Nat → ClassId) (X : State → Prop) (d mj : Nat) (as : List Value) (M : am_Mem) (r : Option Value) (M1 : am_Mem) : Prop :=
  Met l (am_mr mj).1 (am_wl mj) (am_rm d (M1.2.2.2 - M.2.2.2) (am_sl M1.2.2.2 - am_sl M.2.2.2)) (am_Pc b t z L xs D dA X as M) (am_Qr b t z L xs D dA r M1) (M1.2.2.2 - M.2.2.2) (am_sl M1.2.2.2 - am_sl M.2.2.2) (am_A z)
/-- the text's facts stand where nothing below z has changed -/
def am_XX (z : Nat) (X : State → Prop) : Prop := (∀ (s U : State), s.WarmedH U.vm → z ≤ s.heap.size → (∀ q, q < z → U.heap[q]? = s.heap[q]?) → X s → X U) ∧ ∀ (U : State) (g : JFrame) (mk : MethodId) (a : Array Value), X U → X (U.calling g mk a)
theorem am_kd_big {a : Nat} (h : 138 ≤ a) (ci : Nat) : am_kd a ≠ (0, ci) := by
  have hgen : ∀ (l : List (Nat × Nat)) (k : Nat), l.length ≤ k → am_nth l k = none := by
    intro l
    induction l with
    | nil => intro k _; rfl
    | cons q r ih =>
      intro k hk
      cases k with
      | zero => simp at hk
      | succ k => exact ih k (by simp at hk; omega)
  have hl : am_lay.length = 138 := by decide +kernel
  unfold am_kd
  rw [hgen am_lay a (by omega)]
  exact fun q => nomatch q
theorem am_on_cls {x : Nat} (h : x < 13) : am_on x = (am_cls x).1 := by
  match x, h with
  | 0, _ => rfl
  | 1, _ => rfl
  | 2, _ => rfl
  | 3, _ => rfl
  | 4, _ => rfl
  | 5, _ => rfl
  | 6, _ => rfl
  | 7, _ => rfl
  | 8, _ => rfl
  | 9, _ => rfl
  | 10, _ => rfl
  | 11, _ => rfl
  | 12, _ => rfl
  | x + 13, h => exact absurd h (by omega)
set_option maxRecDepth 100000 in
theorem am_init_ok : am_PM.all (fun q => !(Nat.beq q.1.2.2.2.2.2.1 2) || q.1.2.2.2.1.isNone) = true := by decide +kernel
theorem am_init_rt {mj : Nat} (h : am_mk mj = 2) : am_rt mj = none := by
  unfold am_mk am_mr at h
  unfold am_rt am_mr
  cases hq : am_nth am_PM mj with
  | none => rfl
  | some q =>
    rw [hq] at h
    have h1 := List.all_eq_true.mp am_init_ok q (am_mem_PM hq)
    have h2 : q.1.2.2.2.2.2.1 = 2 := h
    rw [h2] at h1
    have h3 : q.1.2.2.2.1.isNone = true := h1
    exact Option.isNone_iff_eq_none.mp h3
section AMM
variable {b t z L : Nat} {xs : Nat → Int32} {D : va_G} {dA : Nat → ClassId} {X : State → Prop} {mi d : Nat} {p : Program} {l : Launch} {e : Env} {R : Room} {s : State} {m : MethodId} {args : Array Value} {below : List Frame} {meth : Method} {c : Code} {Q : State → Prop} {kc ks : Nat}
variable {pc : Nat} {ls : am_Ls} {st : List Value} {M : am_Mem} {pc' : Nat} {ls' : am_Ls} {st' : List Value} {M' : am_Mem} {x y : Nat}
theorem am_Hsz {H : Heap} {locs : List Loc} {cells : Nat} (hP : am_Rp b t z L xs D dA M H) (hS : va_S (am_A z) s.heap H locs) (hz : s.heap.size = z + (kc - 3)) (hk3 : 3 ≤ kc) (hc : cells + kc = M.2.2.2) (h : H.size ≤ s.heap.size + cells) : H.size = z + (M.2.2.2 - 3) := by
  have h1 : z + (M.2.2.2 - 3) ≤ H.size := by
    rcases Nat.lt_or_ge 3 M.2.2.2 with q | q
    · have he := am_ws_get (b := b) (t := t) (z := z) (dA := dA) (M := M) (c := M.2.2.2 - 1) (by omega) (by omega)
      have hl := (hP.2.1 _ _ he).lt
      dsimp only at hl
      omega
    · have := hS.1
      omega
  omega
theorem am_blind (hX : am_XX z X) {as : List Value} : FrameBlind (am_Pc b t z L xs D dA X as M) := by
  intro a U g mk h
  obtain ⟨h1, h2, h3, h4, h5, h6, h7, h8⟩ := h
  exact ⟨h1, h2, h3, va_K.moved (u := U) (U := U.calling g mk a) (Vm.Alike.refl U.vm) h4, va_X.moved (u := U) (U := U.calling g mk a) (Vm.Alike.refl U.vm) h5, fun q hq hy => va_Nw.same rfl rfl (h6 q hq hy), hX.2 U g mk a h7, h8⟩
theorem am_St_to (hX : am_XX z X) (hbz : b < z) {U : State} {H : Heap} {locs : List Loc} (hS : va_S (am_A z) s.heap H locs) (hSt : am_St b t z L xs D dA X s) (hU : U.heap = H) (hW : s.WarmedH U.vm) : am_St b t z L xs D dA X U := by
  obtain ⟨h1, h2, h3, h4, h5⟩ := hSt
  have hlow : ∀ q, q < z → U.heap[q]? = s.heap[q]? := fun q hq => by
    rw [hU]
    exact hS.2.1 q (by omega) (show ¬ z ≤ q by omega)
  exact ⟨va_K.moved hW.alike h1, va_X.moved hW.alike (va_X.kept h2 (hlow b hbz)), fun q hq hy => va_Nw.warmM hW (h3 q hq hy), hX.1 s U hW h5 hlow h4, by rw [hU]; exact Nat.le_trans h5 hS.1⟩
theorem am_chkM_spec (mj : Nat) : plainFor (am_mr mj).1 = true ∧ (am_mr mj).1.cls ≠ "java/lang/invoke/MethodHandle" ∧ (am_mr mj).1.cls ≠ "java/lang/invoke/VarHandle" ∧ (parseMethodDescriptor (am_mr mj).1.desc).map (fun d => d.parameters.length) = some (am_np mj) ∧ am_on (am_mc mj) = (am_mr mj).1.cls ∧ (am_mk mj = 2 → (am_mr mj).1.name = "<init>") ∧ am_ml mj ≤ 40 ∧
    (am_mk mj ≠ 3 → Cond.code (am_mr mj).1 (am_mr mj).2.1 (am_ml mj) (am_rt mj) ∈ am_TB ∧ Cond.initialized (am_mr mj).1.cls ∈ am_TB ∧ (am_mk mj = 1 → Cond.static (am_mr mj).1 ∈ am_TB) ∧ (am_mk mj ≠ 1 → Cond.instanceMethod (am_mr mj).1 ∈ am_TB) ∧ (am_mk mj = 0 → Cond.selects (am_mr mj).1.cls (am_mr mj).1 (am_mr mj).1 ∈ am_TB)) := by
  obtain ⟨h1, h2⟩ := am_mr_spec mj
  unfold am_chkM at h2
  simp only [Bool.and_eq_true, Bool.or_eq_true] at h2
  obtain ⟨a1, ⟨a2, a3, a4, a5, a6, a7⟩, a8⟩ := h2
  refine ⟨a2, of_decide_eq_true a3, of_decide_eq_true a4, of_decide_eq_true a5, ?_, fun hk => ?_, Nat.le_of_ble_eq_true a8, fun hk3 => ?_⟩
  · have e := of_decide_eq_true a6
    unfold am_on am_mc
    rw [e]; rfl
  · rcases a7 with q | q
    · unfold am_mk at hk
      rw [hk] at q
      exact nomatch (show false = true from q)
    · exact of_decide_eq_true q
  · have hk3' : ¬ (am_mr mj).2.2.2.2.2.1 = 3 := hk3
    rcases a1 with q | q
    · exact absurd (Nat.eq_of_beq_eq_true q) hk3'
    · obtain ⟨-, q2, q3, q4⟩ := q
      refine ⟨h1.resolve_left hk3', am_wd_ok q2, fun hk => ?_, fun hk => ?_, fun hk => ?_⟩
      · unfold am_mk at hk
        rw [hk] at q3
        exact am_wd_ok q3
      · have hb : Nat.beq (am_mr mj).2.2.2.2.2.1 1 = false := by
          cases hb : Nat.beq (am_mr mj).2.2.2.2.2.1 1 with
          | false => rfl
          | true => exact absurd (Nat.eq_of_beq_eq_true hb) hk
        rw [hb] at q3
        exact am_wd_ok q3
      · unfold am_mk at hk
        rw [hk] at q4
        rcases q4 with q4 | q4
        · exact nomatch (show false = true from q4)
        · exact am_wd_ok q4
/-- behind a call -/
theorem am_after {mj : Nat} {as : List Value} {r : Option Value} {M1 : am_Mem} {rest st2 : List Value} {pc2 : Nat} {ls2 : am_Ls} {H : Heap} {locs : List Loc} {cells slots : Nat} {lsC : Array Slot} {st0 : List Value} {a : Array Value} (hres : am_res (am_rt mj) r rest = some st2)
    (hn : M.2.2.2 ≤ M1.2.2.2) (hRun : va_Run p l e R s m args below meth c H locs cells slots (M1.2.2.2 - M.2.2.2) (am_sl M1.2.2.2 - am_sl M.2.2.2) (F0 m pc lsC st0) (rest.map (am_cv b t z)) (am_Qr b t z L xs D dA r M1 a) (am_A z)) (hS : va_S (am_A z) s.heap H locs) (hl : lv_has lsC (am_ml mi) (am_cm b t z ls2)) (hc : cells + kc = M.2.2.2) (hs : slots + ks = am_sl M.2.2.2)
    (hp : pc2 = pc + 3) (k : am_WW b t z L xs D dA mi p l e R s m args below meth c Q kc ks pc2 ls2 st2 M1) : W p l e R s m args below meth c H locs cells slots Q (F0 m pc lsC st0) := by
  subst hp
  have hm := am_sl_mono hn
  have key : ∀ (H1 : Heap) (locs1 : List Loc), am_Rp b t z L xs D dA M1 H1 → va_S (am_A z) s.heap H1 locs1 → W p l e R s m args below meth c H1 locs1 (cells + (M1.2.2.2 - M.2.2.2)) (slots + (am_sl M1.2.2.2 - am_sl M.2.2.2)) Q (F0 m (pc + 3) lsC (st2.map (am_cv b t z))) := fun H1 locs1 h1 h2 => k lsC H1 locs1 _ _ h1 h2 hl (by omega) (by omega)
  unfold am_res at hres
  split at hres
  · cases hres
    refine va_calli (a := a) (A1 := am_A z) hRun hS (fun _ _ h => h) (fun _ h => h) (fun w u t1 H1 locs1 ht _ hw hB _ _ hS1 => ?_)
    rw [ht] at hB
    subst hw
    exact key H1 locs1 hB hS1
  · cases hres
    refine va_calli (a := a) (A1 := am_A z) hRun hS (fun _ _ h => h) (fun _ h => h) (fun w u t1 H1 locs1 ht _ hw hB _ _ hS1 => ?_)
    rw [ht] at hB
    subst hw
    exact key H1 locs1 hB hS1
  · cases hres
    refine va_calll (a := a) (A1 := am_A z) hRun hS (fun _ _ h => h) (fun _ h => h) (fun w u t1 H1 locs1 ht _ hw hB _ _ hS1 => ?_)
    rw [ht] at hB
    subst hw
    exact key H1 locs1 hB hS1
  · cases hres
    refine va_callv (a := a) (A1 := am_A z) hRun hS (fun _ _ h => h) (fun _ h => h) (fun u t1 H1 locs1 ht _ _ hB _ _ hS1 => ?_)
    rw [ht] at hB
    exact key H1 locs1 hB hS1
  · cases hres
set_option maxRecDepth 100000 in
theorem am_room8 {x d y : Nat} (h : x ≤ 40) (h2 : 64 * (d + 1 + 8) ≤ y) : 8 + (x + 11) + 64 * (d + 8) ≤ y := by omega
theorem am_callW {d : Nat} (C : am_Cx b t z L xs D dA X mi (d + 1) kc R p s m args meth c) (hX : am_XX z X) (hbz : b < z) {mj : Nat} {as : List Value} {pc2 : Nat} {ls2 : am_Ls} {rest : List Value} {M0 : am_Mem} (h : am_stp mi pc ls st M = some (.inr (.inl (mj, as, pc2, ls2, rest, M0)))) {r : Option Value} {M1 : am_Mem} (hM : am_Mt l b t z L xs D dA X d mj as M r M1) {st2 : List Value} (hres : am_res (am_rt mj) r rest = some st2) (hn : M.2.2.2 ≤ M1.2.2.2)
    (hp1 : M1.2.2.2 ≤ R.cells + kc) (hp2 : am_sl M1.2.2.2 ≤ R.slots + ks) (k : am_WW b t z L xs D dA mi p l e R s m args below meth c Q kc ks pc2 ls2 st2 M1) : am_WW b t z L xs D dA mi p l e R s m args below meth c Q kc ks pc ls st M := by
  obtain ⟨hx, hb, hml, hown, hts, hSt, hr, hlk, hin, hfr, hlo, hz, hk3⟩ := C
  obtain ⟨j, y, rcv, h1, h2, h3, h4⟩ := am_stp_call h
  obtain ⟨-, e2, e3, -, hsum, h5⟩ := am_call_spec h3
  obtain ⟨c1, c2, c3, c4, c5, c6, c7, c8⟩ := am_chkM_spec mj
  obtain ⟨l1, l2, l3⟩ := am_ml_spec h1 h2
  have hm := am_sl_mono hn
  subst e3
  have hkind : am_mk mj ≠ 3 := by
    rcases h4 with ⟨q, -⟩ | ⟨q, -⟩ | ⟨q | q, -⟩
    · rw [(l2 (by omega) (by omega)).2]; omega
    · rw [(l2 (by omega) (by omega)).2]; omega
    · rw [(l2 (by omega) (by omega)).2]; omega
    · rw [(l3 q).1]; omega
  obtain ⟨w1, w2, w3, w4, w5⟩ := c8 hkind
  have hG : GoodIn am_TB (am_wl mj) := am_TB_good (fun w hw => by
    rcases List.mem_cons.mp hw with rfl | hw
    · exact w1
    · exact hw)
  intro lsC H locs cells slots hP hS hl hc hs
  refine am_Wsz (fun hsz => ?_)
  have hH := am_Hsz hP hS hz hk3 hc hsz
  have hR : (am_rm d (M1.2.2.2 - M.2.2.2) (am_sl M1.2.2.2 - am_sl M.2.2.2)).frames + 1 ≤ R.frames ∧ 8 + (am_ml mj + 11) + (am_rm d (M1.2.2.2 - M.2.2.2) (am_sl M1.2.2.2 - am_sl M.2.2.2)).locals ≤ R.locals := ⟨by rw [am_rm_f]; omega, by rw [am_rm_l]; exact am_room8 c7 hlo⟩
  have hpre : ∀ U : State, U.heap = H → s.WarmedH U.vm → am_Pc b t z L xs D dA X as M (as.map (am_cv b t z)).toArray U := fun U hU hW => ⟨rfl, by rw [hU]; exact hH, by rw [hU]; exact hP, am_St_to hX hbz hS hSt hU hW⟩
  have hfit : cells + (M1.2.2.2 - M.2.2.2) ≤ R.cells ∧ slots + (am_sl M1.2.2.2 - am_sl M.2.2.2) ≤ R.slots := ⟨by omega, by omega⟩
  have hroom : 2 * (F0 m pc lsC (st.map (am_cv b t z))).monitorRoom + ((rest.map (am_cv b t z)).map fun v => v.category).sum ≤ 8 := by
    show 2 * 0 + _ ≤ 8
    rw [am_sum_cv]; omega
  have hini : (Cond.initialized (am_mr mj).1.cls).before args s = true := hts _ w2
  refine am_after (as := as) (mj := mj) (M := M) (r := r) (M1 := M1) (rest := rest) (ls2 := ls2) (a := (as.map (am_cv b t z)).toArray) hres hn ?_ hS hl hc hs e2 k
  rcases h4 with ⟨q, hrc, hd⟩ | ⟨q, hrc, hd⟩ | ⟨q, hrc, hd⟩
  · rcases h5 with ⟨-, a, as0, ea, hlen, hst, hcf⟩ | ⟨q2, -⟩
    · subst ea
      obtain ⟨hkd, ha3, halt⟩ := am_cf_spec hcf
      obtain ⟨g1, g2⟩ := l2 (by omega) (by omega)
      have hmk : am_mk mj = 0 := by omega
      have hci : am_mc mj < 13 := by
        rcases Nat.lt_or_ge (am_mc mj) 13 with q3 | q3
        · exact q3
        · exfalso
          have hbig : ∀ a, a < 138 → (am_kd a).1 = 0 → (am_kd a).2 < 13 := by decide +kernel
          have ha : a < 138 := by
            rcases Nat.lt_or_ge a 138 with q4 | q4
            · exact q4
            · exact absurd hkd (am_kd_big q4 _)
          have := hbig a ha (by rw [hkd])
          rw [hkd] at this
          dsimp only at this
          omega
      have hcls : (am_cls (am_mc mj)).1 = (am_mr mj).1.cls := by rw [← c5]; exact (am_on_cls hci).symm
      have he := am_ws_get (b := b) (t := t) (z := z) (dA := dA) (M := M) ha3 halt
      rw [am_en_ob hkd] at he
      have hrecv := va_recv hSt.1 hP.2.1 (am_cls_get hci) he
      rw [hcls] at hrecv
      have hpre2 : ∀ U : State, U.heap = H → s.WarmedH U.vm → am_Pc b t z L xs D dA X (.ref a :: as0) M (Value.ref (z + (a - 3)) :: as0.map (am_cv b t z)).toArray U := fun U hU hW => by
        have := hpre U hU hW
        rw [List.map_cons, am_cvr ha3] at this
        exact this
      have hst2 : st.map (am_cv b t z) = (as0.map (am_cv b t z)).reverse ++ .ref (z + (a - 3)) :: rest.map (am_cv b t z) := by
        rw [hst, List.map_append, List.map_cons, am_cvr ha3, List.map_reverse]
      rw [List.map_cons, am_cvr ha3]
      exact va_runV (bytes := (am_mr mj).2.1) (maxL := am_ml mj) (ret := am_rt mj) (C := (am_mr mj).1.cls) (n := am_np mj) (g := F0 m pc lsC (st.map (am_cv b t z))) (nL := am_ml mi) ⟨hx, hb, hml, hown, hts⟩ hM ⟨callB_of (am_np mj) hts hG rfl rfl rfl hini (hts _ g1) ⟨c2, c3, c4⟩ hR, hts _ (w4 (by omega)), hts _ (w5 hmk)⟩ ⟨am_blind hX, hrecv, hpre2⟩ rfl (by rw [List.length_map]; exact hlen) hl.1 hst2 hroom hd hfit
    · exact absurd q2 (by rw [hrc]; decide)
  · rcases h5 with ⟨q2, -⟩ | ⟨-, hlen, hst⟩
    · exact absurd q2 (by rw [hrc]; decide)
    · obtain ⟨g1, g2⟩ := l2 (by omega) (by omega)
      have hmk : am_mk mj = 1 := by omega
      have hst2 : st.map (am_cv b t z) = (as.map (am_cv b t z)).reverse ++ rest.map (am_cv b t z) := by
        rw [hst, List.map_append, List.map_reverse]
      exact va_runS (bytes := (am_mr mj).2.1) (maxL := am_ml mj) (ret := am_rt mj) (n := am_np mj) (g := F0 m pc lsC (st.map (am_cv b t z))) (nL := am_ml mi) ⟨hx, hb, hml, hown, hts⟩ hM ⟨callB_of (am_np mj) hts hG rfl rfl rfl hini (hts _ g1) ⟨c2, c3, c4⟩ hR, hts _ (w3 hmk)⟩ ⟨am_blind hX, hpre⟩ rfl (by rw [List.length_map]; exact hlen) hl.1 hst2 hroom hd hfit
  · rcases h5 with ⟨-, a, as0, ea, hlen, hst, hcf⟩ | ⟨q2, -⟩
    · subst ea
      obtain ⟨hkd, ha3, halt⟩ := am_cf_spec hcf
      have hmk : am_mk mj = 2 := by
        rcases q with q | q
        · have := (l2 (by omega) (by omega)).2; omega
        · exact (l3 q).1
      have hret : am_rt mj = none := am_init_rt hmk
      have hpre2 : ∀ U : State, U.heap = H → s.WarmedH U.vm → am_Pc b t z L xs D dA X (.ref a :: as0) M (Value.ref (z + (a - 3)) :: as0.map (am_cv b t z)).toArray U := fun U hU hW => by
        have := hpre U hU hW
        rw [List.map_cons, am_cvr ha3] at this
        exact this
      have hst2 : st.map (am_cv b t z) = (as0.map (am_cv b t z)).reverse ++ .ref (z + (a - 3)) :: rest.map (am_cv b t z) := by
        rw [hst, List.map_append, List.map_cons, am_cvr ha3, List.map_reverse]
      rw [List.map_cons, am_cvr ha3]
      have hwl : am_wl mj = Cond.code (am_mr mj).1 (am_mr mj).2.1 (am_ml mj) none :: am_TB := by unfold am_wl; rw [hret]
      rcases q with q | q
      · obtain ⟨g1, g2⟩ := l2 (by omega) (by omega)
        exact va_runI (bytes := (am_mr mj).2.1) (maxL := am_ml mj) (n := am_np mj) (g := F0 m pc lsC (st.map (am_cv b t z))) (nL := am_ml mi) ⟨hx, hb, hml, hown, hts⟩ hM ⟨callB_of (am_np mj) hts hG hwl rfl rfl hini (hts _ g1) ⟨c2, c3, c4⟩ hR, c6 hmk, hts _ (w4 (by omega))⟩ ⟨am_blind hX, hpre2⟩ rfl (by rw [List.length_map]; exact hlen) hl.1 hst2 hroom hd hfit
      · obtain ⟨-, qq, hq1, hq2, hq3, hq4, hq5⟩ := l3 q
        have hnw := hSt.2.2.1 qq hq1 hq2
        rw [hq3, hq4, hq5] at hnw
        exact va_runIN (bytes := (am_mr mj).2.1) (maxL := am_ml mj) (n := am_np mj) (g := F0 m pc lsC (st.map (am_cv b t z))) (nL := am_ml mi) ⟨hx, hb, hml, hown, hts⟩ hM ⟨va_cnB (am_np mj) hts hG hwl rfl rfl hnw hini ⟨c2, c3, c4⟩ hR, c6 hmk, hts _ (w4 (by omega))⟩ ⟨am_blind hX, hpre2⟩ rfl (by rw [List.length_map]; exact hlen) hl.1 hst2 hroom hd hfit
    · exact absurd q2 (by rw [hrc]; decide)
end AMM
