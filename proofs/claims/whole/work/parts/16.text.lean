/-! ===== the text constant: what String.length and String.charAt answer ===== -/
def am_txt : String := "sound boat at tight rosin score wolf rider key carry slips swamp wind squall note mile went number sunk hour or and not all min max first last often total most least "
def am_by : List Int32 := am_str.map am_i
def am_Xt (t v z : Nat) (U : State) : Prop := vk_R "CelloBoats$Scan" 22 am_txt t U ∧ vk_S 1 [am_str.length] [am_by] (fun _ => t) (fun _ => v) (am_A z) U U.heap ∧ va_Z "java/lang/String" "COMPACT_STRINGS" "Z" (.int 1) (am_A z) U U.heap ∧ va_Zq "jdk/internal/util/Preconditions" "SIOOBE_FORMATTER" "Ljava/util/function/BiFunction;" (am_A z) U U.heap
theorem am_Xt_XX (t v z : Nat) : am_XX z (am_Xt t v z) := by
  refine ⟨fun s U hW hz hq h => ?_, fun U g mk a h => ?_⟩
  · obtain ⟨h1, h2, h3, h4⟩ := h
    have hk : ∀ a : Nat, a < s.heap.size → ¬ am_A z a → U.heap[a]? = s.heap[a]? := fun a _ ha => hq a (Nat.not_le.mp ha)
    exact ⟨vk_R.warm hW h1, vk_S.moved hW.alike (h2.kept hk), va_Z.moved hW.alike (h3.kept hk), va_Zq.moved hW.alike (h4.kept hk)⟩
  · obtain ⟨h1, h2, h3, h4⟩ := h
    exact ⟨vk_R.same rfl h1, vk_S.moved (u := U) (U := U.calling g mk a) (Vm.Alike.refl U.vm) h2, va_Z.moved (u := U) (U := U.calling g mk a) (Vm.Alike.refl U.vm) h3, va_Zq.moved (u := U) (U := U.calling g mk a) (Vm.Alike.refl U.vm) h4⟩
def tx_Q (r : Option Value) : Array Value → State → Outcome → State → Prop := fun _ st o t => o = .returned r ∧ t.heap = st.heap
def tx_rm (k : Nat) : Room := { frames := k, cells := 0, slots := 0, locals := 40 * k }
def tx_P (as : List Value) (t v z : Nat) : Array Value → State → Prop := va_Pc as (fun U => am_Xt t v z U ∧ z ≤ U.heap.size)
theorem tx_blind {as : List Value} {t v z : Nat} : FrameBlind (tx_P as t v z) := fun a U g mk h => ⟨h.1, (am_Xt_XX t v z).2 U g mk a h.2.1, h.2.2⟩
def tx_y1 : MethodName := ⟨"jdk/internal/util/Preconditions", "checkIndex", "(IILjava/util/function/BiFunction;)I"⟩
def tx_y2 : MethodName := ⟨"java/lang/String", "checkIndex", "(II)V"⟩
def tx_y3 : MethodName := ⟨"java/lang/StringLatin1", "charAt", "([BI)C"⟩
def tx_y4 : MethodName := ⟨"java/lang/String", "isLatin1", "()Z"⟩
def tx_y5 : MethodName := ⟨"java/lang/String", "charAt", "(I)C"⟩
def tx_y6 : MethodName := ⟨"java/lang/String", "coder", "()B"⟩
def tx_y7 : MethodName := ⟨"java/lang/String", "length", "()I"⟩
abbrev tx_c1 : ByteArray := prog_21_method_11_code
abbrev tx_c2 : ByteArray := prog_16_method_155_code
abbrev tx_c3 : ByteArray := prog_17_method_2_code
abbrev tx_c4 : ByteArray := prog_16_method_154_code
abbrev tx_c5 : ByteArray := prog_16_method_56_code
abbrev tx_c6 : ByteArray := prog_16_method_152_code
abbrev tx_c7 : ByteArray := prog_16_method_54_code
def tx_w (y : MethodName) (c : ByteArray) (n : Nat) (r : Option FieldType) : List Cond := Cond.code y c n r :: am_TB
theorem tx_cw1 : Cond.code tx_y1 tx_c1 3 (some .int) ∈ am_TB := List.mem_filter.mpr ⟨am_tab_mem (p := 64) rfl, rfl⟩
theorem tx_cw2 : Cond.code tx_y2 tx_c2 2 none ∈ am_TB := List.mem_filter.mpr ⟨am_tab_mem (p := 59) rfl, rfl⟩
theorem tx_cw3 : Cond.code tx_y3 tx_c3 2 (some .char) ∈ am_TB := List.mem_filter.mpr ⟨am_tab_mem (p := 56) rfl, rfl⟩
theorem tx_cw4 : Cond.code tx_y4 tx_c4 1 (some .boolean) ∈ am_TB := List.mem_filter.mpr ⟨am_tab_mem (p := 53) rfl, rfl⟩
theorem tx_cw5 : Cond.code tx_y5 tx_c5 2 (some .char) ∈ am_TB := List.mem_filter.mpr ⟨am_tab_mem (p := 49) rfl, rfl⟩
theorem tx_cw6 : Cond.code tx_y6 tx_c6 1 (some .byte) ∈ am_TB := List.mem_filter.mpr ⟨am_tab_mem (p := 43) rfl, rfl⟩
theorem tx_cw7 : Cond.code tx_y7 tx_c7 1 (some .int) ∈ am_TB := List.mem_filter.mpr ⟨am_tab_mem (p := 39) rfl, rfl⟩
theorem tx_t {p : Nat} {w : Cond} (h : am_tab p = some w) (hg : goodWord w = true) : w ∈ am_TB := List.mem_filter.mpr ⟨am_tab_mem h, hg⟩
theorem tx_good {y : MethodName} {c : ByteArray} {n : Nat} {r : Option FieldType} (h : Cond.code y c n r ∈ am_TB) : GoodIn am_TB (tx_w y c n r) := am_TB_good (fun w hw => by
  rcases List.mem_cons.mp hw with rfl | hw
  · exact h
  · exact hw)
theorem tx_d1_0 : decode tx_c1 0 = .ok (.iload_n 0, 1) := by decide +kernel
theorem tx_d1_1 : decode tx_c1 1 = .ok (.ifCond .lt 8, 3) := by decide +kernel
theorem tx_d1_4 : decode tx_c1 4 = .ok (.iload_n 0, 1) := by decide +kernel
theorem tx_d1_5 : decode tx_c1 5 = .ok (.iload_n 1, 1) := by decide +kernel
theorem tx_d1_6 : decode tx_c1 6 = .ok (.if_icmp .lt 10, 3) := by decide +kernel
theorem tx_d1_16 : decode tx_c1 16 = .ok (.iload_n 0, 1) := by decide +kernel
theorem tx_d1_17 : decode tx_c1 17 = .ok (.ireturn, 1) := by decide +kernel
theorem tx_d2_0 : decode tx_c2 0 = .ok (.iload_n 0, 1) := by decide +kernel
theorem tx_d2_1 : decode tx_c2 1 = .ok (.iload_n 1, 1) := by decide +kernel
theorem tx_d2_2 : decode tx_c2 2 = .ok (.getstatic 1053, 3) := by decide +kernel
theorem tx_d2_5 : decode tx_c2 5 = .ok (.invokestatic 1059, 3) := by decide +kernel
theorem tx_d2_8 : decode tx_c2 8 = .ok (.pop, 1) := by decide +kernel
theorem tx_d2_9 : decode tx_c2 9 = .ok (.return_, 1) := by decide +kernel
theorem tx_d3_0 : decode tx_c3 0 = .ok (.iload_n 1, 1) := by decide +kernel
theorem tx_d3_1 : decode tx_c3 1 = .ok (.aload_n 0, 1) := by decide +kernel
theorem tx_d3_2 : decode tx_c3 2 = .ok (.arraylength, 1) := by decide +kernel
theorem tx_d3_3 : decode tx_c3 3 = .ok (.invokestatic 9, 3) := by decide +kernel
theorem tx_d3_6 : decode tx_c3 6 = .ok (.aload_n 0, 1) := by decide +kernel
theorem tx_d3_7 : decode tx_c3 7 = .ok (.iload_n 1, 1) := by decide +kernel
theorem tx_d3_8 : decode tx_c3 8 = .ok (.baload, 1) := by decide +kernel
theorem tx_d3_9 : decode tx_c3 9 = .ok (.sipush 255, 3) := by decide +kernel
theorem tx_d3_12 : decode tx_c3 12 = .ok (.iand, 1) := by decide +kernel
theorem tx_d3_13 : decode tx_c3 13 = .ok (.i2c, 1) := by decide +kernel
theorem tx_d3_14 : decode tx_c3 14 = .ok (.ireturn, 1) := by decide +kernel
theorem tx_d4_0 : decode tx_c4 0 = .ok (.getstatic 38, 3) := by decide +kernel
theorem tx_d4_3 : decode tx_c4 3 = .ok (.ifCond .eq 14, 3) := by decide +kernel
theorem tx_d4_6 : decode tx_c4 6 = .ok (.aload_n 0, 1) := by decide +kernel
theorem tx_d4_7 : decode tx_c4 7 = .ok (.getfield 15, 3) := by decide +kernel
theorem tx_d4_10 : decode tx_c4 10 = .ok (.ifCond .ne 7, 3) := by decide +kernel
theorem tx_d4_13 : decode tx_c4 13 = .ok (.iconst 1, 1) := by decide +kernel
theorem tx_d4_14 : decode tx_c4 14 = .ok (.goto 4, 3) := by decide +kernel
theorem tx_d4_18 : decode tx_c4 18 = .ok (.ireturn, 1) := by decide +kernel
theorem tx_d5_0 : decode tx_c5 0 = .ok (.aload_n 0, 1) := by decide +kernel
theorem tx_d5_1 : decode tx_c5 1 = .ok (.invokevirtual 492, 3) := by decide +kernel
theorem tx_d5_4 : decode tx_c5 4 = .ok (.ifCond .eq 12, 3) := by decide +kernel
theorem tx_d5_7 : decode tx_c5 7 = .ok (.aload_n 0, 1) := by decide +kernel
theorem tx_d5_8 : decode tx_c5 8 = .ok (.getfield 9, 3) := by decide +kernel
theorem tx_d5_11 : decode tx_c5 11 = .ok (.iload_n 1, 1) := by decide +kernel
theorem tx_d5_12 : decode tx_c5 12 = .ok (.invokestatic 495, 3) := by decide +kernel
theorem tx_d5_15 : decode tx_c5 15 = .ok (.ireturn, 1) := by decide +kernel
theorem tx_d6_0 : decode tx_c6 0 = .ok (.getstatic 38, 3) := by decide +kernel
theorem tx_d6_3 : decode tx_c6 3 = .ok (.ifCond .eq 10, 3) := by decide +kernel
theorem tx_d6_6 : decode tx_c6 6 = .ok (.aload_n 0, 1) := by decide +kernel
theorem tx_d6_7 : decode tx_c6 7 = .ok (.getfield 15, 3) := by decide +kernel
theorem tx_d6_10 : decode tx_c6 10 = .ok (.goto 4, 3) := by decide +kernel
theorem tx_d6_14 : decode tx_c6 14 = .ok (.ireturn, 1) := by decide +kernel
theorem tx_d7_0 : decode tx_c7 0 = .ok (.aload_n 0, 1) := by decide +kernel
theorem tx_d7_1 : decode tx_c7 1 = .ok (.getfield 9, 3) := by decide +kernel
theorem tx_d7_4 : decode tx_c7 4 = .ok (.arraylength, 1) := by decide +kernel
theorem tx_d7_5 : decode tx_c7 5 = .ok (.aload_n 0, 1) := by decide +kernel
theorem tx_d7_6 : decode tx_c7 6 = .ok (.invokevirtual 335, 3) := by decide +kernel
theorem tx_d7_9 : decode tx_c7 9 = .ok (.ishr, 1) := by decide +kernel
theorem tx_d7_10 : decode tx_c7 10 = .ok (.ireturn, 1) := by decide +kernel
theorem tx_m1n (l : Launch) (t v z : Nat) (i n : Int32) (h0 : ¬ i < 0) (h1 : i < n) : Met l tx_y1 (tx_w tx_y1 tx_c1 3 (some .int)) (tx_rm 1) (tx_P [.int i, .int n, .null] t v z) (tx_Q (some (.int i))) 0 0 (fun _ => False) := by
  refine va_MetF (cc := tx_c1) (maxL := 3) (ret := (some .int)) (by decide +kernel) rfl ?_
  intro p e s m args below meth c s₁ B hml hv
  obtain ⟨rfl, hX, hzs⟩ := hv
  have hx := B.exec
  have hb := B.bytes
  have hr := B.returns
  have hts0 := atoms_spec (ws := tx_w tx_y1 tx_c1 3 (some .int)) B.pre
  have hts : ∀ w ∈ am_TB, w.before _ s = true := fun w h => hts0 w (List.mem_cons_of_mem _ h)
  have hown : s.vm.findClass tx_y1.cls = some m.cls := findClass_of_methodNamed B.named
  have hlocks := B.notSynchronized
  have hS : va_S (am_A z) s.heap s.heap [] := va_S.rf
  have hl := lv_entry ([.int i, .int n, .null]) (n := 3) (Nat.le_of_ble_eq_true rfl)
  rw [lg_entry_eq]
  generalize (lg_sl ([.int i, .int n, .null]) ++ List.replicate (3 - (lg_sl ([.int i, .int n, .null])).length) Slot.unset).toArray = ls at hl ⊢
  have hl : lv_has ls 3 [(0, .int i), (1, .int n), (2, .null)] := hl
  refine lv_iload_n hx hb tx_d1_0 rfl (lv_at hl 0 rfl) ?_
  refine lv_if_lt (tgt := 9) hx hb tx_d1_1 (by decide) (fun q => absurd q h0) (fun _ => ?_)
  refine lv_iload_n hx hb tx_d1_4 rfl (lv_at hl 0 rfl) ?_
  refine lv_iload_n hx hb tx_d1_5 rfl (lv_at hl 1 rfl) ?_
  refine lv_icmp_lt (tgt := 16) hx hb tx_d1_6 (by decide) (fun _ => ?_) (fun q => absurd h1 q)
  refine lv_iload_n hx hb tx_d1_16 rfl (lv_at hl 0 rfl) ?_
  exact W.iret hx hb hr (fun u hu hW => ⟨rfl, hu⟩) (fun q hq => nomatch hq) tx_d1_17 hlocks

theorem tx_m1r (l : Launch) (t v z : Nat) (i n : Int32) (f : Nat) (h0 : ¬ i < 0) (h1 : i < n) : Met l tx_y1 (tx_w tx_y1 tx_c1 3 (some .int)) (tx_rm 1) (tx_P [.int i, .int n, .ref f] t v z) (tx_Q (some (.int i))) 0 0 (fun _ => False) := by
  refine va_MetF (cc := tx_c1) (maxL := 3) (ret := (some .int)) (by decide +kernel) rfl ?_
  intro p e s m args below meth c s₁ B hml hv
  obtain ⟨rfl, hX, hzs⟩ := hv
  have hx := B.exec
  have hb := B.bytes
  have hr := B.returns
  have hts0 := atoms_spec (ws := tx_w tx_y1 tx_c1 3 (some .int)) B.pre
  have hts : ∀ w ∈ am_TB, w.before _ s = true := fun w h => hts0 w (List.mem_cons_of_mem _ h)
  have hown : s.vm.findClass tx_y1.cls = some m.cls := findClass_of_methodNamed B.named
  have hlocks := B.notSynchronized
  have hS : va_S (am_A z) s.heap s.heap [] := va_S.rf
  have hl := lv_entry ([.int i, .int n, .ref f]) (n := 3) (Nat.le_of_ble_eq_true rfl)
  rw [lg_entry_eq]
  generalize (lg_sl ([.int i, .int n, .ref f]) ++ List.replicate (3 - (lg_sl ([.int i, .int n, .ref f])).length) Slot.unset).toArray = ls at hl ⊢
  have hl : lv_has ls 3 [(0, .int i), (1, .int n), (2, .ref f)] := hl
  refine lv_iload_n hx hb tx_d1_0 rfl (lv_at hl 0 rfl) ?_
  refine lv_if_lt (tgt := 9) hx hb tx_d1_1 (by decide) (fun q => absurd q h0) (fun _ => ?_)
  refine lv_iload_n hx hb tx_d1_4 rfl (lv_at hl 0 rfl) ?_
  refine lv_iload_n hx hb tx_d1_5 rfl (lv_at hl 1 rfl) ?_
  refine lv_icmp_lt (tgt := 16) hx hb tx_d1_6 (by decide) (fun _ => ?_) (fun q => absurd h1 q)
  refine lv_iload_n hx hb tx_d1_16 rfl (lv_at hl 0 rfl) ?_
  exact W.iret hx hb hr (fun u hu hW => ⟨rfl, hu⟩) (fun q hq => nomatch hq) tx_d1_17 hlocks

theorem tx_m2 (l : Launch) (t v z : Nat) (i n : Int32) (h0 : ¬ i < 0) (h1 : i < n) : Met l tx_y2 (tx_w tx_y2 tx_c2 2 none) (tx_rm 2) (tx_P [.int i, .int n] t v z) (tx_Q none) 0 0 (fun _ => False) := by
  refine va_MetF (cc := tx_c2) (maxL := 2) (ret := none) (by decide +kernel) rfl ?_
  intro p e s m args below meth c s₁ B hml hv
  obtain ⟨rfl, hX, hzs⟩ := hv
  have hx := B.exec
  have hb := B.bytes
  have hr := B.returns
  have hts0 := atoms_spec (ws := tx_w tx_y2 tx_c2 2 none) B.pre
  have hts : ∀ w ∈ am_TB, w.before _ s = true := fun w h => hts0 w (List.mem_cons_of_mem _ h)
  have hown : s.vm.findClass tx_y2.cls = some m.cls := findClass_of_methodNamed B.named
  have hlocks := B.notSynchronized
  have hS : va_S (am_A z) s.heap s.heap [] := va_S.rf
  have hl := lv_entry ([.int i, .int n]) (n := 2) (Nat.le_of_ble_eq_true rfl)
  rw [lg_entry_eq]
  generalize (lg_sl ([.int i, .int n]) ++ List.replicate (2 - (lg_sl ([.int i, .int n])).length) Slot.unset).toArray = ls at hl ⊢
  have hl : lv_has ls 2 [(0, .int i), (1, .int n)] := hl
  refine lv_iload_n hx hb tx_d2_0 rfl (lv_at hl 0 rfl) ?_
  refine lv_iload_n hx hb tx_d2_1 rfl (lv_at hl 1 rfl) ?_
  rcases hX.2.2.2 with hZ | ⟨f, hZ⟩
  · refine va_gets hx hb hZ hS hown (hts _ (tx_t (p := 60) rfl rfl)) (fun _ h9 => h9) tx_d2_2 ?_
    refine W.callX (W.runS (bytes := tx_c1) (maxL := 3) (ret := (some .int)) (As := [.int i, .int n, .null]) (rest := []) (nL := 2) (n := 3) ⟨hx, hb, hml, hown, hts⟩ (tx_m1n l t v z i n h0 h1) ⟨callB_of 3 hts (tx_good tx_cw1) rfl rfl rfl (hts _ (tx_t (p := 5) rfl rfl)) (hts _ (tx_t (p := 62) rfl rfl)) (by decide +kernel) ⟨by decide, by decide⟩, hts _ (tx_t (p := 63) rfl rfl)⟩ ⟨tx_blind, fun U hU hW => ⟨rfl, (am_Xt_XX t v z).1 s U hW hzs (fun q _ => by rw [hU]) hX, by rw [hU]; exact hzs⟩⟩ rfl rfl hl.1 rfl (lv_room (by decide)) tx_d2_5 ⟨Nat.le_refl _, Nat.le_refl _⟩) (fun _ h => nomatch h) (fun rv st₀ u hu hq => ?_)
    obtain ⟨hq1, hq2⟩ := hq
    cases hq1
    rw [hq2, hu]
    refine lv_pop hx hb tx_d2_8 rfl ?_
    exact W.vret hx hb hr (fun u2 hu2 hW => ⟨rfl, hu2⟩) (fun q hq => nomatch hq) tx_d2_9 hlocks
  · refine va_gets hx hb hZ hS hown (hts _ (tx_t (p := 60) rfl rfl)) (fun _ h9 => h9) tx_d2_2 ?_
    refine W.callX (W.runS (bytes := tx_c1) (maxL := 3) (ret := (some .int)) (As := [.int i, .int n, .ref f]) (rest := []) (nL := 2) (n := 3) ⟨hx, hb, hml, hown, hts⟩ (tx_m1r l t v z i n f h0 h1) ⟨callB_of 3 hts (tx_good tx_cw1) rfl rfl rfl (hts _ (tx_t (p := 5) rfl rfl)) (hts _ (tx_t (p := 62) rfl rfl)) (by decide +kernel) ⟨by decide, by decide⟩, hts _ (tx_t (p := 63) rfl rfl)⟩ ⟨tx_blind, fun U hU hW => ⟨rfl, (am_Xt_XX t v z).1 s U hW hzs (fun q _ => by rw [hU]) hX, by rw [hU]; exact hzs⟩⟩ rfl rfl hl.1 rfl (lv_room (by decide)) tx_d2_5 ⟨Nat.le_refl _, Nat.le_refl _⟩) (fun _ h => nomatch h) (fun rv st₀ u hu hq => ?_)
    obtain ⟨hq1, hq2⟩ := hq
    cases hq1
    rw [hq2, hu]
    refine lv_pop hx hb tx_d2_8 rfl ?_
    exact W.vret hx hb hr (fun u2 hu2 hW => ⟨rfl, hu2⟩) (fun q hq => nomatch hq) tx_d2_9 hlocks

theorem tx_len : am_str.length = 166 := by decide +kernel
set_option maxRecDepth 100000 in
theorem tx_byte : ∀ k, k < 166 → ((((am_by.getD k 0) &&& 255).toUInt32 % 65536).toInt32 = am_i ((am_nth am_str k).getD 0)) ∧ narrow .char (.int (am_i ((am_nth am_str k).getD 0))) = .int (am_i ((am_nth am_str k).getD 0)) := by decide +kernel
theorem tx_m3 (l : Launch) (t v z : Nat) (i : Int32) (hi : am_ok i am_str.length = true) : Met l tx_y3 (tx_w tx_y3 tx_c3 2 (some .char)) (tx_rm 3) (tx_P [.ref v, .int i] t v z) (tx_Q (some (.int (am_i ((am_nth am_str i.toNatClampNeg).getD 0))))) 0 0 (fun _ => False) := by
  refine va_MetF (cc := tx_c3) (maxL := 2) (ret := (some .char)) (by decide +kernel) rfl ?_
  intro p e s m args below meth c s₁ B hml hv
  obtain ⟨rfl, hX, hzs⟩ := hv
  have hx := B.exec
  have hb := B.bytes
  have hr := B.returns
  have hts0 := atoms_spec (ws := tx_w tx_y3 tx_c3 2 (some .char)) B.pre
  have hts : ∀ w ∈ am_TB, w.before _ s = true := fun w h => hts0 w (List.mem_cons_of_mem _ h)
  have hown : s.vm.findClass tx_y3.cls = some m.cls := findClass_of_methodNamed B.named
  have hlocks := B.notSynchronized
  have hS : va_S (am_A z) s.heap s.heap [] := va_S.rf
  have hl := lv_entry ([.ref v, .int i]) (n := 2) (Nat.le_of_ble_eq_true rfl)
  rw [lg_entry_eq]
  generalize (lg_sl ([.ref v, .int i]) ++ List.replicate (2 - (lg_sl ([.ref v, .int i])).length) Slot.unset).toArray = ls at hl ⊢
  have hl : lv_has ls 2 [(0, .ref v), (1, .int i)] := hl
  obtain ⟨hin, hlt⟩ := am_ok_spec hi
  have hi0 : ¬ i < 0 := fun q => hin (Or.inl q)
  have hlt2 : i.toNatClampNeg < 166 := by rw [tx_len] at hlt; exact hlt
  have hin2 : i < Int32.ofNat 166 := by
    rw [Int32.lt_iff_toInt_lt, Int32.toInt_ofNat_of_lt (by decide)]
    have : i.toNatClampNeg = i.toInt.toNat := rfl
    omega
  have hT := (hX.2.1.1 0 (by decide)).2.2.2
  refine lv_iload_n hx hb tx_d3_0 rfl (lv_at hl 1 rfl) ?_
  refine lv_aload_n hx hb tx_d3_1 rfl (lv_at hl 0 rfl) ?_
  refine va_tlen (v := Int32.ofNat 166) hx hb hT hS (by show Int32.ofNat am_str.length = _; rw [tx_len]) tx_d3_2 ?_
  refine W.callX (W.runS (bytes := tx_c2) (maxL := 2) (ret := none) (As := [.int i, .int (Int32.ofNat 166)]) (rest := []) (nL := 2) (n := 2) ⟨hx, hb, hml, hown, hts⟩ (tx_m2 l t v z i (Int32.ofNat 166) hi0 hin2) ⟨callB_of 2 hts (tx_good tx_cw2) rfl rfl rfl (hts _ (tx_t (p := 3) rfl rfl)) (hts _ (tx_t (p := 57) rfl rfl)) (by decide +kernel) ⟨by decide, by decide⟩, hts _ (tx_t (p := 58) rfl rfl)⟩ ⟨tx_blind, fun U hU hW => ⟨rfl, (am_Xt_XX t v z).1 s U hW hzs (fun q _ => by rw [hU]) hX, by rw [hU]; exact hzs⟩⟩ rfl rfl hl.1 rfl (lv_room (by decide)) tx_d3_3 ⟨Nat.le_refl _, Nat.le_refl _⟩) (fun _ h => nomatch h) (fun rv st₀ u hu hq => ?_)
  obtain ⟨hq1, hq2⟩ := hq
  cases hq1
  rw [hq2, hu]
  refine lv_aload_n hx hb tx_d3_6 rfl (lv_at hl 0 rfl) ?_
  refine lv_iload_n hx hb tx_d3_7 rfl (lv_at hl 1 rfl) ?_
  refine va_tb (v := .int (am_by.getD i.toNatClampNeg 0)) hx hb hT hS hin rfl tx_d3_8 ?_
  refine lv_sipush (v := 255) hx hb tx_d3_9 (by decide) ?_
  refine lv_iand hx hb tx_d3_12 ?_
  refine lv_i2c hx hb tx_d3_13 (tx_byte _ hlt2).1 ?_
  exact W.zret hx hb hr (tx_byte _ hlt2).2 (fun u2 hu2 hW => ⟨rfl, hu2⟩) (fun q hq => nomatch hq) tx_d3_14 hlocks

theorem tx_m4 (l : Launch) (t v z : Nat) : Met l tx_y4 (tx_w tx_y4 tx_c4 1 (some .boolean)) (tx_rm 1) (tx_P [.ref t] t v z) (tx_Q (some (.int 1))) 0 0 (fun _ => False) := by
  refine va_MetF (cc := tx_c4) (maxL := 1) (ret := (some .boolean)) (by decide +kernel) rfl ?_
  intro p e s m args below meth c s₁ B hml hv
  obtain ⟨rfl, hX, hzs⟩ := hv
  have hx := B.exec
  have hb := B.bytes
  have hr := B.returns
  have hts0 := atoms_spec (ws := tx_w tx_y4 tx_c4 1 (some .boolean)) B.pre
  have hts : ∀ w ∈ am_TB, w.before _ s = true := fun w h => hts0 w (List.mem_cons_of_mem _ h)
  have hown : s.vm.findClass tx_y4.cls = some m.cls := findClass_of_methodNamed B.named
  have hlocks := B.notSynchronized
  have hS : va_S (am_A z) s.heap s.heap [] := va_S.rf
  have hl := lv_entry ([.ref t]) (n := 1) (Nat.le_of_ble_eq_true rfl)
  rw [lg_entry_eq]
  generalize (lg_sl ([.ref t]) ++ List.replicate (1 - (lg_sl ([.ref t])).length) Slot.unset).toArray = ls at hl ⊢
  have hl : lv_has ls 1 [(0, .ref t)] := hl
  refine va_gets hx hb hX.2.2.1 hS hown (hts _ (tx_t (p := 44) rfl rfl)) (fun _ h9 => h9) tx_d4_0 ?_
  refine lv_if_eq (tgt := 17) hx hb tx_d4_3 (by decide) (fun q => absurd q (by decide)) (fun _ => ?_)
  refine lv_aload_n hx hb tx_d4_6 rfl (lv_at hl 0 rfl) ?_
  refine vk_getf hx hb (hX.2.1.1 0 (by decide)).2.1 hS hown (hts _ (tx_t (p := 2034) rfl rfl)) (fun _ h9 => h9) tx_d4_7 ?_
  refine lv_if_ne (tgt := 17) hx hb tx_d4_10 (by decide) (fun q => absurd rfl q) (fun _ => ?_)
  refine lv_iconst (v := 1) hx hb tx_d4_13 (by decide) ?_
  refine lv_goto (tgt := 18) hx hb tx_d4_14 (by decide) ?_
  exact W.zret hx hb hr rfl (fun u2 hu2 hW => ⟨rfl, hu2⟩) (fun q hq => nomatch hq) tx_d4_18 hlocks
theorem tx_m6 (l : Launch) (t v z : Nat) : Met l tx_y6 (tx_w tx_y6 tx_c6 1 (some .byte)) (tx_rm 1) (tx_P [.ref t] t v z) (tx_Q (some (.int 0))) 0 0 (fun _ => False) := by
  refine va_MetF (cc := tx_c6) (maxL := 1) (ret := (some .byte)) (by decide +kernel) rfl ?_
  intro p e s m args below meth c s₁ B hml hv
  obtain ⟨rfl, hX, hzs⟩ := hv
  have hx := B.exec
  have hb := B.bytes
  have hr := B.returns
  have hts0 := atoms_spec (ws := tx_w tx_y6 tx_c6 1 (some .byte)) B.pre
  have hts : ∀ w ∈ am_TB, w.before _ s = true := fun w h => hts0 w (List.mem_cons_of_mem _ h)
  have hown : s.vm.findClass tx_y6.cls = some m.cls := findClass_of_methodNamed B.named
  have hlocks := B.notSynchronized
  have hS : va_S (am_A z) s.heap s.heap [] := va_S.rf
  have hl := lv_entry ([.ref t]) (n := 1) (Nat.le_of_ble_eq_true rfl)
  rw [lg_entry_eq]
  generalize (lg_sl ([.ref t]) ++ List.replicate (1 - (lg_sl ([.ref t])).length) Slot.unset).toArray = ls at hl ⊢
  have hl : lv_has ls 1 [(0, .ref t)] := hl
  refine va_gets hx hb hX.2.2.1 hS hown (hts _ (tx_t (p := 44) rfl rfl)) (fun _ h9 => h9) tx_d6_0 ?_
  refine lv_if_eq (tgt := 13) hx hb tx_d6_3 (by decide) (fun q => absurd q (by decide)) (fun _ => ?_)
  refine lv_aload_n hx hb tx_d6_6 rfl (lv_at hl 0 rfl) ?_
  refine vk_getf hx hb (hX.2.1.1 0 (by decide)).2.1 hS hown (hts _ (tx_t (p := 2034) rfl rfl)) (fun _ h9 => h9) tx_d6_7 ?_
  refine lv_goto (tgt := 14) hx hb tx_d6_10 (by decide) ?_
  exact W.zret hx hb hr rfl (fun u2 hu2 hW => ⟨rfl, hu2⟩) (fun q hq => nomatch hq) tx_d6_14 hlocks

theorem tx_m5 (l : Launch) (t v z : Nat) (i : Int32) (hi : am_ok i am_str.length = true) : Met l tx_y5 (tx_w tx_y5 tx_c5 2 (some .char)) (tx_rm 4) (tx_P [.ref t, .int i] t v z) (tx_Q (some (.int (am_i ((am_nth am_str i.toNatClampNeg).getD 0))))) 0 0 (fun _ => False) := by
  refine va_MetF (cc := tx_c5) (maxL := 2) (ret := (some .char)) (by decide +kernel) rfl ?_
  intro p e s m args below meth c s₁ B hml hv
  obtain ⟨rfl, hX, hzs⟩ := hv
  have hx := B.exec
  have hb := B.bytes
  have hr := B.returns
  have hts0 := atoms_spec (ws := tx_w tx_y5 tx_c5 2 (some .char)) B.pre
  have hts : ∀ w ∈ am_TB, w.before _ s = true := fun w h => hts0 w (List.mem_cons_of_mem _ h)
  have hown : s.vm.findClass tx_y5.cls = some m.cls := findClass_of_methodNamed B.named
  have hlocks := B.notSynchronized
  have hS : va_S (am_A z) s.heap s.heap [] := va_S.rf
  have hl := lv_entry ([.ref t, .int i]) (n := 2) (Nat.le_of_ble_eq_true rfl)
  rw [lg_entry_eq]
  generalize (lg_sl ([.ref t, .int i]) ++ List.replicate (2 - (lg_sl ([.ref t, .int i])).length) Slot.unset).toArray = ls at hl ⊢
  have hl : lv_has ls 2 [(0, .ref t), (1, .int i)] := hl
  have hlt2 : i.toNatClampNeg < 166 := by have := (am_ok_spec hi).2; rw [tx_len] at this; exact this
  refine lv_aload_n hx hb tx_d5_0 rfl (lv_at hl 0 rfl) ?_
  refine W.callX (W.runV (bytes := tx_c4) (maxL := 1) (ret := (some .boolean)) (C := "java/lang/String") (As := []) (rest := []) (nL := 2) (n := 0) ⟨hx, hb, hml, hown, hts⟩ (tx_m4 l t v z) ⟨callB_of 0 hts (tx_good tx_cw4) rfl rfl rfl (hts _ (tx_t (p := 3) rfl rfl)) (hts _ (tx_t (p := 50) rfl rfl)) (by decide +kernel) ⟨by decide, by decide⟩, hts _ (tx_t (p := 51) rfl rfl), hts _ (tx_t (p := 52) rfl rfl)⟩ ⟨tx_blind, vk_recv hX.2.1 (by decide : 0 < 1) hS, fun U hU hW => ⟨rfl, (am_Xt_XX t v z).1 s U hW hzs (fun q _ => by rw [hU]) hX, by rw [hU]; exact hzs⟩⟩ rfl rfl hl.1 rfl (lv_room (by decide)) tx_d5_1 ⟨Nat.le_refl _, Nat.le_refl _⟩) (fun _ h => nomatch h) (fun rv st₀ u hu hq => ?_)
  obtain ⟨hq1, hq2⟩ := hq
  cases hq1
  rw [hq2, hu]
  refine lv_if_eq (tgt := 16) hx hb tx_d5_4 (by show ((4 : Nat) : Int) + 12 = ((16 : Nat) : Int); decide) (fun q => absurd q (by decide)) (fun _ => ?_)
  refine lv_aload_n hx hb tx_d5_7 rfl (lv_at hl 0 rfl) ?_
  refine vk_getf hx hb (hX.2.1.1 0 (by decide)).2.2.1 hS hown (hts _ (tx_t (p := 2033) rfl rfl)) (fun _ h9 => h9) tx_d5_8 ?_
  refine lv_iload_n hx hb tx_d5_11 rfl (lv_at hl 1 rfl) ?_
  refine W.callX (W.runS (bytes := tx_c3) (maxL := 2) (ret := (some .char)) (As := [.ref v, .int i]) (rest := []) (nL := 2) (n := 2) ⟨hx, hb, hml, hown, hts⟩ (tx_m3 l t v z i hi) ⟨callB_of 2 hts (tx_good tx_cw3) rfl rfl rfl (hts _ (tx_t (p := 4) rfl rfl)) (hts _ (tx_t (p := 54) rfl rfl)) (by decide +kernel) ⟨by decide, by decide⟩, hts _ (tx_t (p := 55) rfl rfl)⟩ ⟨tx_blind, fun U hU hW => ⟨rfl, (am_Xt_XX t v z).1 s U hW hzs (fun q _ => by rw [hU]) hX, by rw [hU]; exact hzs⟩⟩ rfl rfl hl.1 rfl (lv_room (by decide)) tx_d5_12 ⟨Nat.le_refl _, Nat.le_refl _⟩) (fun _ h => nomatch h) (fun rv st₀ u hu hq => ?_)
  obtain ⟨hq1, hq2⟩ := hq
  cases hq1
  rw [hq2, hu]
  exact W.zret hx hb hr (tx_byte _ hlt2).2 (fun u2 hu2 hW => ⟨rfl, hu2⟩) (fun q hq => nomatch hq) tx_d5_15 hlocks

theorem tx_m7 (l : Launch) (t v z : Nat) : Met l tx_y7 (tx_w tx_y7 tx_c7 1 (some .int)) (tx_rm 2) (tx_P [.ref t] t v z) (tx_Q (some (.int (am_i am_str.length)))) 0 0 (fun _ => False) := by
  refine va_MetF (cc := tx_c7) (maxL := 1) (ret := (some .int)) (by decide +kernel) rfl ?_
  intro p e s m args below meth c s₁ B hml hv
  obtain ⟨rfl, hX, hzs⟩ := hv
  have hx := B.exec
  have hb := B.bytes
  have hr := B.returns
  have hts0 := atoms_spec (ws := tx_w tx_y7 tx_c7 1 (some .int)) B.pre
  have hts : ∀ w ∈ am_TB, w.before _ s = true := fun w h => hts0 w (List.mem_cons_of_mem _ h)
  have hown : s.vm.findClass tx_y7.cls = some m.cls := findClass_of_methodNamed B.named
  have hlocks := B.notSynchronized
  have hS : va_S (am_A z) s.heap s.heap [] := va_S.rf
  have hl := lv_entry ([.ref t]) (n := 1) (Nat.le_of_ble_eq_true rfl)
  rw [lg_entry_eq]
  generalize (lg_sl ([.ref t]) ++ List.replicate (1 - (lg_sl ([.ref t])).length) Slot.unset).toArray = ls at hl ⊢
  have hl : lv_has ls 1 [(0, .ref t)] := hl
  refine lv_aload_n hx hb tx_d7_0 rfl (lv_at hl 0 rfl) ?_
  refine vk_getf hx hb (hX.2.1.1 0 (by decide)).2.2.1 hS hown (hts _ (tx_t (p := 2033) rfl rfl)) (fun _ h9 => h9) tx_d7_1 ?_
  refine va_tlen (v := am_i am_str.length) hx hb (hX.2.1.1 0 (by decide)).2.2.2 hS (am_i_nat _).symm tx_d7_4 ?_
  refine lv_aload_n hx hb tx_d7_5 rfl (lv_at hl 0 rfl) ?_
  refine W.callX (W.runV (bytes := tx_c6) (maxL := 1) (ret := (some .byte)) (C := "java/lang/String") (As := []) (rest := [.int (am_i am_str.length)]) (nL := 1) (n := 0) ⟨hx, hb, hml, hown, hts⟩ (tx_m6 l t v z) ⟨callB_of 0 hts (tx_good tx_cw6) rfl rfl rfl (hts _ (tx_t (p := 3) rfl rfl)) (hts _ (tx_t (p := 40) rfl rfl)) (by decide +kernel) ⟨by decide, by decide⟩, hts _ (tx_t (p := 41) rfl rfl), hts _ (tx_t (p := 42) rfl rfl)⟩ ⟨tx_blind, vk_recv hX.2.1 (by decide : 0 < 1) hS, fun U hU hW => ⟨rfl, (am_Xt_XX t v z).1 s U hW hzs (fun q _ => by rw [hU]) hX, by rw [hU]; exact hzs⟩⟩ rfl rfl hl.1 rfl (lv_room (by decide)) tx_d7_6 ⟨Nat.le_refl _, Nat.le_refl _⟩) (fun _ h => nomatch h) (fun rv st₀ u hu hq => ?_)
  obtain ⟨hq1, hq2⟩ := hq
  cases hq1
  rw [hq2, hu]
  refine lv_ishr hx hb tx_d7_9 ?_
  have e : am_i am_str.length >>> ((0 : Int32) &&& 31) = am_i am_str.length := by rw [tx_len]; decide
  rw [e]
  exact W.iret hx hb hr (fun u2 hu2 hW => ⟨rfl, hu2⟩) (fun q hq => nomatch hq) tx_d7_10 hlocks

theorem am_TX_ok (l : Launch) (b t v z L : Nat) (xs : Nat → Int32) (D : va_G) (dA : Nat → ClassId) : am_TX l b t z L xs D dA (am_Xt t v z) := by
  intro mi d kc p e R s m args below meth c H locs cells slots Q lsC pc rest C hS hls hcl hsl
  obtain ⟨hx, hb, hml, hown, hts, hSt, hr, hlk, hin, hfr, hlo, hz, hk3⟩ := C
  have hX := hSt.2.2.2.1
  have hzs := hSt.2.2.2.2
  have hlow : ∀ (U : State), U.heap = H → ∀ q, q < z → U.heap[q]? = s.heap[q]? := fun U hU q hq => by
    rw [hU]
    exact hS.2.1 q (by omega) (show ¬ z ≤ q by omega)
  refine ⟨fun hmc hd k => ?_, fun j hsum hlink hd k => ?_, fun j i hsum hlink hd hi k => ?_⟩
  · rw [hmc] at hown
    exact va_ldcS hx hb hown hX.1 hd k
  · refine W.callX (W.runV (bytes := tx_c7) (maxL := 1) (ret := (some .int)) (C := "java/lang/String") (As := []) (rest := rest) (nL := am_ml mi) (n := 0) (g := F0 m pc lsC (.ref t :: rest)) ⟨hx, hb, hml, hown, hts⟩ (tx_m7 l t v z) ⟨callB_of 0 hts (tx_good tx_cw7) rfl rfl rfl (hts _ (tx_t (p := 3) rfl rfl)) (hts _ hlink) (by decide +kernel) ⟨by show 2 + 1 ≤ R.frames; omega, by show 8 + (1 + 11) + 40 * 2 ≤ R.locals; omega⟩, hts _ (tx_t (p := 37) rfl rfl), hts _ (tx_t (p := 38) rfl rfl)⟩ ⟨tx_blind, vk_recv hX.2.1 (by decide : 0 < 1) hS, fun U hU hW => ⟨rfl, (am_Xt_XX t v z).1 s U hW hzs (hlow U hU) hX, by rw [hU]; exact Nat.le_trans hzs hS.1⟩⟩ rfl rfl hls rfl (lv_room (by omega)) hd ⟨hcl, hsl⟩) (fun _ h => nomatch h) (fun rv st₀ u hu hq => ?_)
    obtain ⟨hq1, hq2⟩ := hq
    cases hq1
    rw [hq2, hu]
    exact k
  · refine W.callX (W.runV (bytes := tx_c5) (maxL := 2) (ret := (some .char)) (C := "java/lang/String") (As := [.int i]) (rest := rest) (nL := am_ml mi) (n := 1) (g := F0 m pc lsC (.int i :: .ref t :: rest)) ⟨hx, hb, hml, hown, hts⟩ (tx_m5 l t v z i hi) ⟨callB_of 1 hts (tx_good tx_cw5) rfl rfl rfl (hts _ (tx_t (p := 3) rfl rfl)) (hts _ hlink) (by decide +kernel) ⟨by show 4 + 1 ≤ R.frames; omega, by show 8 + (2 + 11) + 40 * 4 ≤ R.locals; omega⟩, hts _ (tx_t (p := 47) rfl rfl), hts _ (tx_t (p := 48) rfl rfl)⟩ ⟨tx_blind, vk_recv hX.2.1 (by decide : 0 < 1) hS, fun U hU hW => ⟨rfl, (am_Xt_XX t v z).1 s U hW hzs (hlow U hU) hX, by rw [hU]; exact Nat.le_trans hzs hS.1⟩⟩ rfl rfl hls rfl (lv_room (by omega)) hd ⟨hcl, hsl⟩) (fun _ h => nomatch h) (fun rv st₀ u hu hq => ?_)
    obtain ⟨hq1, hq2⟩ := hq
    cases hq1
    rw [hq2, hu]
    exact k
