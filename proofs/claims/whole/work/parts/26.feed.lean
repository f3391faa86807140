/-! ===== feed ===== -/
/-- bytes written one behind another into the row t; the count stands in a, 1 -/
def wrs (t a : Nat) : tI → Nat → List Int32 → tI
  | I, _, [] => I
  | I, n, v :: r => wrs t a (am_up (am_up I t n v) a 1 (am_i (n + 1 : Nat))) (n + 1) r
theorem wrs_app (t a : Nat) : ∀ (l1 l2 : List Int32) (I : tI) (n : Nat), wrs t a (wrs t a I n l1) (n + l1.length) l2 = wrs t a I n (l1 ++ l2)
  | [], _, _, _ => rfl
  | v :: r, l2, I, n => by
    show wrs t a (wrs t a _ (n + 1) r) (n + (r.length + 1)) l2 = wrs t a _ (n + 1) (r ++ l2)
    rw [show n + (r.length + 1) = n + 1 + r.length by omega]
    exact wrs_app t a r l2 _ (n + 1)
theorem wrs_ne {t a c : Nat} (h1 : c ≠ t) (h2 : c ≠ a) : ∀ (l : List Int32) (I : tI) (n : Nat), wrs t a I n l c = I c
  | [], _, _ => rfl
  | v :: r, I, n => by
    show wrs t a _ (n + 1) r c = I c
    rw [wrs_ne h1 h2 r, am_up_ne _ _ _ _ h2, am_up_ne _ _ _ _ h1]
theorem wrs_k {t a k : Nat} (hta : t ≠ a) (hk : k ≠ 1) : ∀ (l : List Int32) (I : tI) (n : Nat), wrs t a I n l a k = I a k
  | [], _, _ => rfl
  | v :: r, I, n => by
    show wrs t a _ (n + 1) r a k = I a k
    rw [wrs_k hta hk r]
    simp [am_up, hk, Ne.symm hta]
theorem wrs_n {t a : Nat} : ∀ (l : List Int32) (I : tI) (n : Nat), I a 1 = am_i n → wrs t a I n l a 1 = am_i (n + l.length : Nat)
  | [], I, n, h => h
  | v :: r, I, n, h => by
    show wrs t a _ (n + 1) r a 1 = _
    rw [wrs_n r _ (n + 1) (by simp [am_up])]
    congr 2
    show n + 1 + r.length = n + (r.length + 1)
    omega
theorem wrs_t {t a : Nat} (hta : t ≠ a) : ∀ (l : List Int32) (I : tI) (n k : Nat), wrs t a I n l t k = if k < n then I t k else (l[k - n]?).getD (I t k)
  | [], I, n, k => by
    show I t k = _
    by_cases h : k < n
    · rw [if_pos h]
    · rw [if_neg h]; rfl
  | v :: r, I, n, k => by
    show wrs t a _ (n + 1) r t k = _
    rw [wrs_t hta r]
    have e : am_up (am_up I t n v) a 1 (am_i (n + 1 : Nat)) t k = if k = n then v else I t k := by simp [am_up, hta]
    rw [e]
    by_cases h : k < n
    · rw [if_pos (by omega), if_neg (by omega), if_pos h]
    · rw [if_neg h]
      by_cases h2 : k = n
      · subst h2
        rw [if_pos (by omega), if_pos rfl, Nat.sub_self]
        rfl
      · rw [if_neg (by omega), if_neg h2]
        rw [show k - n = (k - (n + 1)) + 1 by omega, List.getElem?_cons_succ]
def byteOf (w : Int32) (s : Int) : Int32 := (w >>> (am_i s &&& 31)) &&& am_i 255
theorem e_add1 (d : Nat) (w : Int32) (s : Int) (n : Nat) (hn : n < 1600) (hs : 0 ≤ s) (hs2 : s ≤ 24) (I : tI) (J : tJ) (R : tR) (hx : st_Rx R) (h : I 3 1 = am_i n) : am_E (d + 1) 154 3 [(0, .ref 3), (1, .int w), (2, .int (am_i s))] [] (I, J, R, 138) = am_E (d + 1) 154 3 [(0, .ref 3), (1, .int w), (2, .int (am_i (s - 8)))] [] (wrs 4 3 I n [byteOf w s], J, R, 138) := by
  have hx' := hx
  unfold st_Rx at hx'
  have c1 : ¬ am_i s < 0 := by rw [i32_lt0, am_i_toInt (by omega) (by omega)]; omega
  have c2 : ¬ am_i 1600 ≤ am_i (n : Int) := by rw [am_i_le (by omega) (by omega) (by omega) (by omega)]; omega
  have hok : am_ok (am_i n) 1600 = true := am_ok_i (by omega) (by omega) (by omega)
  have hcl : (am_i n).toNatClampNeg = n := by rw [am_i_cl (by omega) (by omega)]; omega
  have e1 : am_up I 4 n ((w >>> (am_i s &&& 31)) &&& am_i 255) 3 1 = am_i n := h
  have e2 : am_i (n : Int) + am_i 1 = am_i (n + 1 : Nat) := by rw [am_i_add]; rfl
  have e3 : am_i s + am_i (-8) = am_i (s - 8) := by rw [am_i_add]; rfl
  rw [sg_X11_addToTape_3]
  simp only [hx', ly_csx, ly_cax, ly_cf, ly_kd, ly_ln, Bool.cond_decide, cond_true, cond_false, am_bI_s, am_bV_s, am_bL_s, am_let_s, Nat.blt, Nat.ble, Bool.and_true, Bool.true_and, Bool.and_self, Int.cast_ofNat_Int, if_neg c1, h, if_neg c2, hok, hcl, e1, e2, sg_X11_addToTape_43, e3]
  rfl
def byts (w : Int32) : List Int32 := [byteOf w 24, byteOf w 16, byteOf w 8, byteOf w 0]
theorem e_add (d : Nat) (w : Int32) (n : Nat) (hn : n + 4 ≤ 1600) (I : tI) (J : tJ) (R : tR) (hx : st_Rx R) (h : I 3 1 = am_i n) : am_E (d + 1) 154 0 [(0, .ref 3), (1, .int w)] [] (I, J, R, 138) = some (none, (wrs 4 3 I n (byts w), J, R, 138)) := by
  rw [sg_X11_addToTape_0, e_add1 d w 24 n (by omega) (by decide) (by decide) I J R hx h]
  rw [show ((24 : Int) - 8) = 16 from rfl, e_add1 d w 16 (n + 1) (by omega) (by decide) (by decide) _ J R hx (wrs_n _ I n h)]
  rw [show ((16 : Int) - 8) = 8 from rfl, e_add1 d w 8 (n + 2) (by omega) (by decide) (by decide) _ J R hx (wrs_n _ _ _ (wrs_n _ I n h))]
  rw [show ((8 : Int) - 8) = 0 from rfl, e_add1 d w 0 (n + 3) (by omega) (by decide) (by decide) _ J R hx (wrs_n _ _ _ (wrs_n _ _ _ (wrs_n _ I n h)))]
  rw [sg_X11_addToTape_3]
  have c1 : am_i ((0 : Int) - 8) < 0 := by decide
  simp only [Bool.cond_decide, if_pos c1]
  rfl
theorem e_xfeed (d : Nat) (a1 a2 a3 a4 a5 : Int32) (n : Nat) (hn : n + 20 ≤ 1600) (I : tI) (J : tJ) (R : tR) (hx : st_Rx R) (h : I 3 1 = am_i n) : am_E (d + 2) 100 0 [(0, .ref 3), (1, .int a1), (2, .int a2), (3, .int a3), (4, .int a4), (5, .int a5)] [] (I, J, R, 138) = some (some (.int (am_i (n + 20 : Nat))), (wrs 4 3 I n (byts a1 ++ byts a2 ++ byts a3 ++ byts a4 ++ byts a5), J, R, 138)) := by
  have hx' := hx
  unfold st_Rx at hx'
  have c1 : am_i (n : Int) + am_i 20 ≤ am_i 1600 := by rw [am_i_add, am_i_le (by omega) (by omega) (by omega) (by omega)]; omega
  have k1 : wrs 4 3 I n (byts a1) 3 1 = am_i (n + 4 : Nat) := wrs_n _ I n h
  have k2 : wrs 4 3 I n (byts a1 ++ byts a2) 3 1 = am_i (n + 8 : Nat) := wrs_n _ I n h
  have k3 : wrs 4 3 I n (byts a1 ++ byts a2 ++ byts a3) 3 1 = am_i (n + 12 : Nat) := wrs_n _ I n h
  have k4 : wrs 4 3 I n (byts a1 ++ byts a2 ++ byts a3 ++ byts a4) 3 1 = am_i (n + 16 : Nat) := wrs_n _ I n h
  have k5 : wrs 4 3 I n (byts a1 ++ byts a2 ++ byts a3 ++ byts a4 ++ byts a5) 3 1 = am_i (n + 20 : Nat) := wrs_n _ I n h
  rw [sg_X11_feed_0]
  simp only [hx', ly_csx, ly_cax, ly_cf, ly_kd, ly_ln, Bool.cond_decide, cond_true, cond_false, am_bI_s, am_bV_s, am_bL_s, am_let_s, Nat.blt, Nat.ble, Bool.and_true, Bool.true_and, Bool.and_self, Int.cast_ofNat_Int, h, if_pos c1]
  rw [e_add d a1 n (by omega) I J R hx h]
  simp only [hx', ly_csx, ly_cax, ly_cf, ly_kd, ly_ln, Bool.cond_decide, cond_true, cond_false, am_bI_s, am_bV_s, am_bL_s, am_let_s, Nat.blt, Nat.ble, Bool.and_true, Bool.true_and, Bool.and_self, Int.cast_ofNat_Int]
  rw [e_add d a2 (n + 4) (by omega) _ J R hx k1]
  simp only [hx', ly_csx, ly_cax, ly_cf, ly_kd, ly_ln, Bool.cond_decide, cond_true, cond_false, am_bI_s, am_bV_s, am_bL_s, am_let_s, Nat.blt, Nat.ble, Bool.and_true, Bool.true_and, Bool.and_self, Int.cast_ofNat_Int]
  rw [show wrs 4 3 (wrs 4 3 I n (byts a1)) (n + 4) (byts a2) = wrs 4 3 I n (byts a1 ++ byts a2) from wrs_app 4 3 (byts a1) (byts a2) I n]
  rw [e_add d a3 (n + 8) (by omega) _ J R hx k2]
  simp only [hx', ly_csx, ly_cax, ly_cf, ly_kd, ly_ln, Bool.cond_decide, cond_true, cond_false, am_bI_s, am_bV_s, am_bL_s, am_let_s, Nat.blt, Nat.ble, Bool.and_true, Bool.true_and, Bool.and_self, Int.cast_ofNat_Int]
  rw [show wrs 4 3 (wrs 4 3 I n (byts a1 ++ byts a2)) (n + 8) (byts a3) = wrs 4 3 I n (byts a1 ++ byts a2 ++ byts a3) from wrs_app 4 3 (byts a1 ++ byts a2) (byts a3) I n]
  rw [e_add d a4 (n + 12) (by omega) _ J R hx k3]
  simp only [hx', ly_csx, ly_cax, ly_cf, ly_kd, ly_ln, Bool.cond_decide, cond_true, cond_false, am_bI_s, am_bV_s, am_bL_s, am_let_s, Nat.blt, Nat.ble, Bool.and_true, Bool.true_and, Bool.and_self, Int.cast_ofNat_Int]
  rw [show wrs 4 3 (wrs 4 3 I n (byts a1 ++ byts a2 ++ byts a3)) (n + 12) (byts a4) = wrs 4 3 I n (byts a1 ++ byts a2 ++ byts a3 ++ byts a4) from wrs_app 4 3 (byts a1 ++ byts a2 ++ byts a3) (byts a4) I n]
  rw [e_add d a5 (n + 16) (by omega) _ J R hx k4]
  simp only [hx', ly_csx, ly_cax, ly_cf, ly_kd, ly_ln, Bool.cond_decide, cond_true, cond_false, am_bI_s, am_bV_s, am_bL_s, am_let_s, Nat.blt, Nat.ble, Bool.and_true, Bool.true_and, Bool.and_self, Int.cast_ofNat_Int]
  rw [show wrs 4 3 (wrs 4 3 I n (byts a1 ++ byts a2 ++ byts a3 ++ byts a4)) (n + 16) (byts a5) = wrs 4 3 I n (byts a1 ++ byts a2 ++ byts a3 ++ byts a4 ++ byts a5) from wrs_app 4 3 (byts a1 ++ byts a2 ++ byts a3 ++ byts a4) (byts a5) I n]
  rw [k5]

def wsel (a1 a2 a3 a4 a5 : Int32) (k : Nat) : Int32 := if k < 4 then a1 else if k < 8 then a2 else if k < 12 then a3 else if k < 16 then a4 else a5
set_option maxRecDepth 10000 in
theorem sh_m : ∀ k, k < 20 → ((am_i 8) * ((am_i 3) - (am_i (k : Nat) - am_i (k : Nat) / (am_i 4) * (am_i 4)))) &&& 31 = am_i (24 - 8 * (k % 4 : Nat) : Int) &&& 31 := by decide
theorem e_mfeed1 (d : Nat) (a1 a2 a3 a4 a5 : Int32) (k n : Nat) (hk : k < 20) (hn : n < 1600) (I : tI) (J : tJ) (R : tR) (hm : st_Rm R) (h : I 64 1 = am_i n) : am_E (d + 1) 165 28 [(0, .ref 64), (1, .int a1), (2, .int a2), (3, .int a3), (4, .int a4), (5, .int a5), (6, .int (am_i (k : Nat)))] [] (I, J, R, 138) = am_E (d + 1) 165 28 [(0, .ref 64), (1, .int a1), (2, .int a2), (3, .int a3), (4, .int a4), (5, .int a5), (6, .int (am_i (k + 1 : Nat)))] [] (wrs 65 64 I n [byteOf (wsel a1 a2 a3 a4 a5 k) (24 - 8 * (k % 4 : Nat) : Int)], J, R, 138) := by
  have hm' := hm
  unfold st_Rm at hm'
  have hle : ∀ v : Nat, v ≤ 20 → (am_i (v : Int) ≤ am_i (k : Int) ↔ v ≤ k) := fun v hv => by rw [am_i_le (by omega) (by omega) (by omega) (by omega)]; omega
  have q20 := hle 20 (by omega)
  have q4 := hle 4 (by omega)
  have q8 := hle 8 (by omega)
  have q12 := hle 12 (by omega)
  have q16 := hle 16 (by omega)
  simp only [Int.cast_ofNat_Int] at q20 q4 q8 q12 q16
  have hz : (!(am_i 4 == 0)) = true := by decide
  have hok : am_ok (am_i n) 1600 = true := am_ok_i (by omega) (by omega) (by omega)
  have hcl : (am_i n).toNatClampNeg = n := by rw [am_i_cl (by omega) (by omega)]; omega
  have e1 : ∀ v, am_up I 65 n v 64 1 = am_i n := fun v => h
  have e2 : am_i (n : Int) + am_i 1 = am_i (n + 1 : Nat) := by rw [am_i_add]; rfl
  have e3 : am_i (k : Int) + am_i 1 = am_i (k + 1 : Nat) := by rw [am_i_add]; rfl
  rw [sg_X12_feed_28]
  simp only [hm', ly_csm, ly_cam, ly_cf, ly_kd, ly_ln, Bool.cond_decide, cond_true, cond_false, am_bI_s, am_bV_s, am_bL_s, am_let_s, Nat.blt, Nat.ble, Bool.and_true, Bool.true_and, Bool.and_self, Int.cast_ofNat_Int, q20, q4, q8, q12, q16, hz, h, hok, hcl, e1, e2, e3, sh_m k hk]
  unfold wsel
  by_cases b20 : 20 ≤ k
  · omega
  · rw [if_neg b20]
    by_cases b4 : 4 ≤ k
    · rw [if_pos b4, if_neg (by omega : ¬ k < 4)]
      by_cases b8 : 8 ≤ k
      · rw [if_pos b8, if_neg (by omega : ¬ k < 8)]
        by_cases b12 : 12 ≤ k
        · rw [if_pos b12, if_neg (by omega : ¬ k < 12)]
          by_cases b16 : 16 ≤ k
          · rw [if_pos b16, if_neg (by omega : ¬ k < 16)]; rfl
          · rw [if_neg b16, if_pos (by omega : k < 16)]; rfl
        · rw [if_neg b12, if_pos (by omega : k < 12)]; rfl
      · rw [if_neg b8, if_pos (by omega : k < 8)]; rfl
    · rw [if_neg b4, if_pos (by omega : k < 4)]; rfl
theorem e_mfeedk (d : Nat) (a1 a2 a3 a4 a5 : Int32) (J : tJ) (R : tR) (hm : st_Rm R) : ∀ (m k n : Nat) (I : tI), k + m = 20 → n + m ≤ 1600 → I 64 1 = am_i n → am_E (d + 1) 165 28 [(0, .ref 64), (1, .int a1), (2, .int a2), (3, .int a3), (4, .int a4), (5, .int a5), (6, .int (am_i (k : Nat)))] [] (I, J, R, 138) = some (some (.int (am_i (n + m : Nat))), (wrs 65 64 I n ((List.range m).map (fun j => byteOf (wsel a1 a2 a3 a4 a5 (k + j)) (24 - 8 * ((k + j) % 4 : Nat) : Int))), J, R, 138))
  | 0, k, n, I, hk, hn, h => by
    have hm' := hm
    unfold st_Rm at hm'
    have e : k = 20 := by omega
    subst e
    rw [sg_X12_feed_28]
    have c : am_i 20 ≤ am_i 20 := by decide
    simp only [hm', ly_csm, ly_cam, ly_cf, ly_kd, ly_ln, Bool.cond_decide, cond_true, cond_false, am_bI_s, am_bV_s, am_bL_s, am_let_s, Nat.blt, Nat.ble, Bool.and_true, Bool.true_and, Bool.and_self, Int.cast_ofNat_Int, h]
    rw [if_pos c]
    rfl
  | m + 1, k, n, I, hk, hn, h => by
    rw [e_mfeed1 d a1 a2 a3 a4 a5 k n (by omega) (by omega) I J R hm h]
    rw [e_mfeedk d a1 a2 a3 a4 a5 J R hm m (k + 1) (n + 1) _ (by omega) (by omega) (wrs_n _ I n h)]
    rw [show n + 1 + m = n + (m + 1) by omega, List.range_succ_eq_map, List.map_cons, List.map_map]
    simp only [Nat.add_zero, Function.comp_def]
    have e : ∀ j, k + 1 + j = k + (j + 1) := fun j => by omega
    simp only [e]
    rfl
theorem feed_bytes (a1 a2 a3 a4 a5 : Int32) : (List.range 20).map (fun j => byteOf (wsel a1 a2 a3 a4 a5 (0 + j)) (24 - 8 * ((0 + j) % 4 : Nat) : Int)) = byts a1 ++ byts a2 ++ byts a3 ++ byts a4 ++ byts a5 := rfl
theorem and255 (x : Int32) : ∃ v : Nat, v < 256 ∧ x &&& am_i 255 = am_i v := by
  refine ⟨(x.toBitVec &&& 255#32).toNat, ?_, ?_⟩
  · rw [BitVec.toNat_and]
    exact Nat.lt_of_le_of_lt Nat.and_le_right (by decide)
  · rw [am_i_nat]
    apply Int32.toBitVec.inj
    show x.toBitVec &&& (am_i 255).toBitVec = BitVec.ofNat 32 _
    rw [show (am_i 255).toBitVec = 255#32 from rfl, BitVec.ofNat_toNat, BitVec.setWidth_eq]
theorem byteOf_r (w : Int32) (s : Int) : ∃ v : Nat, v < 256 ∧ byteOf w s = am_i v := by
  have h := and255 (w >>> (am_i s &&& 31))
  exact h
theorem p_feed {W : tI → tJ → tR → Prop} {L : Nat} {xs : Nat → Int32} (hW : wC W) (d : Nat) (a1 a2 a3 a4 a5 : Int32) : pr_I (vV W L xs) (d + 3) 100 165 [(1, .int a1), (2, .int a2), (3, .int a3), (4, .int a4), (5, .int a5)] := by
  intro I J R hV
  obtain ⟨⟨h1, h2, hx, hm, hmu⟩, ⟨n, hn, t1, t2, t3⟩, hr, hf, hp, hs, hd, hw⟩ := hV
  have hx' := hx
  have hm' := hm
  unfold st_Rx at hx'
  unfold st_Rm at hm'
  by_cases c : n + 20 ≤ 1600
  · have hby : ∃ bs : List Int32, bs = byts a1 ++ byts a2 ++ byts a3 ++ byts a4 ++ byts a5 := ⟨_, rfl⟩
    obtain ⟨bs, hbs⟩ := hby
    have hlen : bs.length = 20 := by rw [hbs]; rfl
    have hall : ∀ v ∈ bs, ∃ u : Nat, u < 256 ∧ v = am_i u := by
      intro v hv
      rw [hbs] at hv
      simp only [byts, List.mem_append, List.mem_cons, List.not_mem_nil, or_false] at hv
      rcases hv with ((((rfl | rfl | rfl | rfl) | rfl | rfl | rfl | rfl) | rfl | rfl | rfl | rfl) | rfl | rfl | rfl | rfl) | rfl | rfl | rfl | rfl <;> exact byteOf_r _ _
    have t2' : wrs 4 3 I n bs 64 1 = am_i n := by rw [wrs_ne (by decide) (by decide)]; exact t2
    have c1 : am_i (n : Int) + am_i 20 ≤ am_i 1600 := by rw [am_i_add, am_i_le (by omega) (by omega) (by omega) (by omega)]; omega
    refine ⟨am_i (n + 20 : Nat), wrs 4 3 I n bs, J, R, wrs 65 64 (wrs 4 3 I n bs) n bs, J, R, ?_, ?_, rfl, ?_, ?_⟩
    · rw [hbs]; exact e_xfeed (d + 1) a1 a2 a3 a4 a5 n c I J R hx t1
    · rw [wrs_ne (by decide) (by decide)]
    · rw [sg_X12_feed_0]
      simp only [hm', ly_csm, ly_cam, ly_cf, ly_kd, ly_ln, Bool.cond_decide, cond_true, cond_false, am_bI_s, am_bV_s, am_bL_s, am_let_s, Nat.blt, Nat.ble, Bool.and_true, Bool.true_and, Bool.and_self, Int.cast_ofNat_Int, t2', if_pos c1]
      rw [show am_i 0 = am_i ((0 : Nat) : Int) from rfl, e_mfeedk (d + 2) a1 a2 a3 a4 a5 J R hm 20 0 n _ rfl c t2', feed_bytes, ← hbs]
    · have hI : ∀ c k, c ≠ 4 → c ≠ 65 → ¬ (c = 3 ∧ k = 1) → ¬ (c = 64 ∧ k = 1) → wrs 65 64 (wrs 4 3 I n bs) n bs c k = I c k := by
        intro c k q1 q2 q3 q4
        by_cases e64 : c = 64
        · subst e64
          rw [wrs_k (by decide) (fun e => q4 ⟨rfl, e⟩), wrs_ne (by decide) (by decide)]
        · rw [wrs_ne q2 e64]
          by_cases e3 : c = 3
          · subst e3
            rw [wrs_k (by decide) (fun e => q3 ⟨rfl, e⟩)]
          · rw [wrs_ne q1 e3]
      have hcg : ∀ {X : tI → Prop} {dX : Nat → Nat → Bool}, cg X dX → (∀ k, dX 4 k = false) → (∀ k, dX 65 k = false) → dX 3 1 = false → dX 64 1 = false → X I → X (wrs 65 64 (wrs 4 3 I n bs) n bs) := by
        intro X dX hc z1 z2 z3 z4 hX
        refine hc I _ (fun c k hk => hI c k ?_ ?_ ?_ ?_) hX
        · rintro rfl; rw [z1] at hk; cases hk
        · rintro rfl; rw [z2] at hk; cases hk
        · rintro ⟨rfl, rfl⟩; rw [z3] at hk; cases hk
        · rintro ⟨rfl, rfl⟩; rw [z4] at hk; cases hk
      refine ⟨⟨by rw [wrs_ne (by decide) (by decide), wrs_ne (by decide) (by decide)]; exact h1, h2, hx, hm, hmu⟩, ?_, hcg vRefd_cg (fun _ => rfl) (fun _ => rfl) rfl rfl hr, hcg vFault_cg (fun _ => rfl) (fun _ => rfl) rfl rfl hf, hcg vPic_cg (fun _ => rfl) (fun _ => rfl) rfl rfl hp, hcg vSeen_cg (fun _ => rfl) (fun _ => rfl) rfl rfl hs, hcg (vSeed_cg J) (fun _ => rfl) (fun _ => rfl) rfl rfl hd, hcg (wC_I hW J R) (fun _ => rfl) (fun _ => rfl) rfl rfl hw⟩
      refine ⟨n + 20, c, ?_, ?_, fun k hk => ?_⟩
      · rw [wrs_ne (by decide) (by decide), wrs_n bs I n t1, hlen]
      · rw [wrs_n bs _ n t2', hlen]
      · rw [wrs_ne (by decide : (4 : Nat) ≠ 65) (by decide), wrs_t (by decide), wrs_t (by decide), wrs_ne (by decide : (65 : Nat) ≠ 4) (by decide)]
        by_cases hkn : k < n
        · rw [if_pos hkn, if_pos hkn]
          exact t3 k hkn
        · rw [if_neg hkn, if_neg hkn]
          have hlt : k - n < bs.length := by omega
          rw [List.getElem?_eq_getElem hlt]
          obtain ⟨u, hu, hv⟩ := hall _ (List.getElem_mem hlt)
          exact ⟨u, hu, hv, hv⟩
  · have c1 : ¬ am_i (n : Int) + am_i 20 ≤ am_i 1600 := by rw [am_i_add, am_i_le (by omega) (by omega) (by omega) (by omega)]; omega
    refine ⟨am_i (-1), am_up I 63 0 (I 63 0 + am_i 1), J, R, am_up (am_up I 63 0 (I 63 0 + am_i 1)) 66 0 (I 66 0 + am_i 1), J, R, ?_, ?_, rfl, ?_, ?_⟩
    · rw [sg_X11_feed_0]
      simp only [hx', ly_csx, ly_cax, ly_cf, ly_kd, ly_ln, Bool.cond_decide, cond_true, cond_false, am_bI_s, am_bV_s, am_bL_s, am_let_s, Nat.blt, Nat.ble, Bool.and_true, Bool.true_and, Bool.and_self, Int.cast_ofNat_Int, t1, if_neg c1]
      rw [show am_i 0 = am_i ((0 : Nat) : Int) from rfl, e_refuse _ 0 (by decide) I J R hx]
      rfl
    · rw [am_up_ap]; rfl
    · rw [sg_X12_feed_0]
      have t2' : am_up I 63 0 (I 63 0 + am_i 1) 64 1 = am_i (n : Int) := t2
      have hok : am_ok (am_i 0) 6 = true := by decide
      have hcl : (am_i 0).toNatClampNeg = 0 := by decide
      simp only [hm', ly_csm, ly_cam, ly_cf, ly_kd, ly_ln, Bool.cond_decide, cond_true, cond_false, am_bI_s, am_bV_s, am_bL_s, am_let_s, Nat.blt, Nat.ble, Bool.and_true, Bool.true_and, Bool.and_self, Int.cast_ofNat_Int, t2', if_neg c1, hok, hcl]
      rfl
    · refine ⟨⟨by rw [am_up_ap, am_up_ap]; exact h1, h2, hx, hm, hmu⟩, cg_up vTape_cg _ rfl (cg_up vTape_cg _ rfl ⟨n, hn, t1, t2, t3⟩), vRefd_inc hr 0, cg_up vFault_cg _ rfl (cg_up vFault_cg _ rfl hf), cg_up vPic_cg _ rfl (cg_up vPic_cg _ rfl hp), cg_up vSeen_cg _ rfl (cg_up vSeen_cg _ rfl hs), cg_up (vSeed_cg _) _ rfl (cg_up (vSeed_cg _) _ rfl hd), cg_up (wC_I hW _ _) _ rfl (cg_up (wC_I hW _ _) _ rfl hw)⟩
