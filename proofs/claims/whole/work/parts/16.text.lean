/-! ===== the text constant: what String.length and String.charAt answer ===== -/
def am_txt : String := "sound boat at tight rosin score wolf rider key carry slips swamp wind squall note mile went number sunk hour or and not all min max first last often total most least "
def am_by : List Int32 := am_str.map am_i
def am_Xt (t v z : Nat) (U : State) : Prop := vk_R "CelloBoats$Scan" 22 am_txt t U ∧ vk_S 1 [am_str.length] [am_by] (fun _ => t) (fun _ => v) (am_A z) U U.heap ∧ va_Z "java/lang/String" "COMPACT_STRINGS" "Z" (.int 1) (am_A z) U U.heap ∧ va_Zq "jdk/internal/util/Preconditions" "SIOOBE_FORMATTER" "Ljava/util/function/BiFunction;" (am_A z) U U.heap
theorem am_Xt_XX (t v z : Nat) : am_XX z (am_Xt t v z) := by
  refine ⟨fun s U hW hz hq h => ?_, fun U g mk a h => ?_⟩
  · obtain ⟨h1, h2, h3, h4⟩ := h
    have hk : ∀ a : Nat, a < s.heap.size → ¬ am_A z a → U.heap[a]? = s.heap[a]? := fun a _ ha => hq a (Nat.not_le.mp ha)
    exact ⟨vk_R.warm hW h1, vk_S.moved hW.alike (h2.kept hk), va_Z.moved hW.alike (h3.kept hk), va_Zq.moved hW.alike (h4.kept hk)⟩
  · obtain ⟨h1, h2, h3, h4⟩ := h
    exact ⟨vk_R.same rfl h1, vk_S.moved (u := U) (U := U.calling g mk a) (Vm.Alike.refl U.vm) h2, va_Z.moved (u := U) (U := U.calling g mk a) (Vm.Alike.refl U.vm) h3, va_Zq.moved (u := U) (U := U.calling g mk a) (Vm.Alike.refl U.vm) h4⟩
def tx_Q (r : Option Value) : Array Value → State → Outcome → State → Prop := fun _ st o t => o = .returned r ∧ t.heap = st.heap
def tx_rm (k : Nat) : Room := { frames := k, cells := 0, slots := 0, locals := 40 * k }
def tx_P (as : List Value) (t v z : Nat) : Array Value → State → Prop := va_Pc as (fun U => am_Xt t v z U ∧ z ≤ U.heap.size)
theorem tx_blind {as : List Value} {t v z : Nat} : FrameBlind (tx_P as t v z) := fun a U g mk h => ⟨h.1, (am_Xt_XX t v z).2 U g mk a h.2.1, h.2.2⟩
def tx_y1 : MethodName := ⟨"jdk/internal/util/Preconditions", "checkIndex", "(IILjava/util/function/BiFunction;)I"⟩
def tx_y2 : MethodName := ⟨"java/lang/String", "checkIndex", "(II)V"⟩
def tx_y3 : MethodName := ⟨"java/lang/StringLatin1", "charAt", "([BI)C"⟩
def tx_y4 : MethodName := ⟨"java/lang/String", "isLatin1", "()Z"⟩
def tx_y5 : MethodName := ⟨"java/lang/String", "charAt", "(I)C"⟩
def tx_y6 : MethodName := ⟨"java/lang/String", "coder", "()B"⟩
def tx_y7 : MethodName := ⟨"java/lang/String", "length", "()I"⟩
abbrev tx_c1 : ByteArray := prog_21_method_11_code
abbrev tx_c2 : ByteArray := prog_16_method_155_code
abbrev tx_c3 : ByteArray := prog_17_method_2_code
abbrev tx_c4 : ByteArray := prog_16_method_154_code
abbrev tx_c5 : ByteArray := prog_16_method_56_code
abbrev tx_c6 : ByteArray := prog_16_method_152_code
abbrev tx_c7 : ByteArray := prog_16_method_54_code
def tx_w (y : MethodName) (c : ByteArray) (n : Nat) (r : Option FieldType) : List Cond := Cond.code y c n r :: am_TB
theorem tx_cw1 : Cond.code tx_y1 tx_c1 3 (some .int) ∈ am_TB := List.mem_filter.mpr ⟨am_tab_mem (p := 64) rfl, rfl⟩
theorem tx_cw2 : Cond.code tx_y2 tx_c2 2 none ∈ am_TB := List.mem_filter.mpr ⟨am_tab_mem (p := 59) rfl, rfl⟩
theorem tx_cw3 : Cond.code tx_y3 tx_c3 2 (some .char) ∈ am_TB := List.mem_filter.mpr ⟨am_tab_mem (p := 56) rfl, rfl⟩
theorem tx_cw4 : Cond.code tx_y4 tx_c4 1 (some .boolean) ∈ am_TB := List.mem_filter.mpr ⟨am_tab_mem (p := 53) rfl, rfl⟩
theorem tx_cw5 : Cond.code tx_y5 tx_c5 2 (some .char) ∈ am_TB := List.mem_filter.mpr ⟨am_tab_mem (p := 49) rfl, rfl⟩
theorem tx_cw6 : Cond.code tx_y6 tx_c6 1 (some .byte) ∈ am_TB := List.mem_filter.mpr ⟨am_tab_mem (p := 43) rfl, rfl⟩
theorem tx_cw7 : Cond.code tx_y7 tx_c7 1 (some .int) ∈ am_TB := List.mem_filter.mpr ⟨am_tab_mem (p := 39) rfl, rfl⟩
theorem tx_t {p : Nat} {w : Cond} (h : am_tab p = some w) (hg : goodWord w = true) : w ∈ am_TB := List.mem_filter.mpr ⟨am_tab_mem h, hg⟩
theorem tx_good {y : MethodName} {c : ByteArray} {n : Nat} {r : Option FieldType} (h : Cond.code y c n r ∈ am_TB) : GoodIn am_TB (tx_w y c n r) := am_TB_good (fun w hw => by
  rcases List.mem_cons.mp hw with rfl | hw
  · exact h
  · exact hw)
theorem tx_d1_0 : decode tx_c1 0 = .ok (.iload_n 0, 1) := by decide +kernel
theorem tx_d1_1 : decode tx_c1 1 = .ok (.ifCond .lt 8, 3) := by decide +kernel
theorem tx_d1_4 : decode tx_c1 4 = .ok (.iload_n 0, 1) := by decide +kernel
theorem tx_d1_5 : decode tx_c1 5 = .ok (.iload_n 1, 1) := by decide +kernel
theorem tx_d1_6 : decode tx_c1 6 = .ok (.if_icmp .lt 10, 3) := by decide +kernel
theorem tx_d1_16 : decode tx_c1 16 = .ok (.iload_n 0, 1) := by decide +kernel
theorem tx_d1_17 : decode tx_c1 17 = .ok (.ireturn, 1) := by decide +kernel
theorem tx_d2_0 : decode tx_c2 0 = .ok (.iload_n 0, 1) := by decide +kernel
theorem tx_d2_1 : decode tx_c2 1 = .ok (.iload_n 1, 1) := by decide +kernel
theorem tx_d2_2 : decode tx_c2 2 = .ok (.getstatic 1053, 3) := by decide +kernel
theorem tx_d2_5 : decode tx_c2 5 = .ok (.invokestatic 1059, 3) := by decide +kernel
theorem tx_d2_8 : decode tx_c2 8 = .ok (.pop, 1) := by decide +kernel
theorem tx_d2_9 : decode tx_c2 9 = .ok (.return_, 1) := by decide +kernel
theorem tx_d3_0 : decode tx_c3 0 = .ok (.iload_n 1, 1) := by decide +kernel
theorem tx_d3_1 : decode tx_c3 1 = .ok (.aload_n 0, 1) := by decide +kernel
theorem tx_d3_2 : decode tx_c3 2 = .ok (.arraylength, 1) := by decide +kernel
theorem tx_d3_3 : decode tx_c3 3 = .ok (.invokestatic 9, 3) := by decide +kernel
theorem tx_d3_6 : decode tx_c3 6 = .ok (.aload_n 0, 1) := by decide +kernel
theorem tx_d3_7 : decode tx_c3 7 = .ok (.iload_n 1, 1) := by decide +kernel
theorem tx_d3_8 : decode tx_c3 8 = .ok (.baload, 1) := by decide +kernel
theorem tx_d3_9 : decode tx_c3 9 = .ok (.sipush 255, 3) := by decide +kernel
theorem tx_d3_12 : decode tx_c3 12 = .ok (.iand, 1) := by decide +kernel
theorem tx_d3_13 : decode tx_c3 13 = .ok (.i2c, 1) := by decide +kernel
theorem tx_d3_14 : decode tx_c3 14 = .ok (.ireturn, 1) := by decide +kernel
theorem tx_d4_0 : decode tx_c4 0 = .ok (.getstatic 38, 3) := by decide +kernel
theorem tx_d4_3 : decode tx_c4 3 = .ok (.ifCond .eq 14, 3) := by decide +kernel
theorem tx_d4_6 : decode tx_c4 6 = .ok (.aload_n 0, 1) := by decide +kernel
theorem tx_d4_7 : decode tx_c4 7 = .ok (.getfield 15, 3) := by decide +kernel
theorem tx_d4_10 : decode tx_c4 10 = .ok (.ifCond .ne 7, 3) := by decide +kernel
theorem tx_d4_13 : decode tx_c4 13 = .ok (.iconst 1, 1) := by decide +kernel
theorem tx_d4_14 : decode tx_c4 14 = .ok (.goto 4, 3) := by decide +kernel
theorem tx_d4_18 : decode tx_c4 18 = .ok (.ireturn, 1) := by decide +kernel
theorem tx_d5_0 : decode tx_c5 0 = .ok (.aload_n 0, 1) := by decide +kernel
theorem tx_d5_1 : decode tx_c5 1 = .ok (.invokevirtual 492, 3) := by decide +kernel
theorem tx_d5_4 : decode tx_c5 4 = .ok (.ifCond .eq 12, 3) := by decide +kernel
theorem tx_d5_7 : decode tx_c5 7 = .ok (.aload_n 0, 1) := by decide +kernel
theorem tx_d5_8 : decode tx_c5 8 = .ok (.getfield 9, 3) := by decide +kernel
theorem tx_d5_11 : decode tx_c5 11 = .ok (.iload_n 1, 1) := by decide +kernel
theorem tx_d5_12 : decode tx_c5 12 = .ok (.invokestatic 495, 3) := by decide +kernel
theorem tx_d5_15 : decode tx_c5 15 = .ok (.ireturn, 1) := by decide +kernel
theorem tx_d6_0 : decode tx_c6 0 = .ok (.getstatic 38, 3) := by decide +kernel
theorem tx_d6_3 : decode tx_c6 3 = .ok (.ifCond .eq 10, 3) := by decide +kernel
theorem tx_d6_6 : decode tx_c6 6 = .ok (.aload_n 0, 1) := by decide +kernel
theorem tx_d6_7 : decode tx_c6 7 = .ok (.getfield 15, 3) := by decide +kernel
theorem tx_d6_10 : decode tx_c6 10 = .ok (.goto 4, 3) := by decide +kernel
theorem tx_d6_14 : decode tx_c6 14 = .ok (.ireturn, 1) := by decide +kernel
theorem tx_d7_0 : decode tx_c7 0 = .ok (.aload_n 0, 1) := by decide +kernel
theorem tx_d7_1 : decode tx_c7 1 = .ok (.getfield 9, 3) := by decide +kernel
theorem tx_d7_4 : decode tx_c7 4 = .ok (.arraylength, 1) := by decide +kernel
theorem tx_d7_5 : decode tx_c7 5 = .ok (.aload_n 0, 1) := by decide +kernel
theorem tx_d7_6 : decode tx_c7 6 = .ok (.invokevirtual 335, 3) := by decide +kernel
theorem tx_d7_9 : decode tx_c7 9 = .ok (.ishr, 1) := by decide +kernel
theorem tx_d7_10 : decode tx_c7 10 = .ok (.ireturn, 1) := by decide +kernel
