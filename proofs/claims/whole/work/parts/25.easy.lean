/-! ===== pairs of calls that look at little ===== -/
theorem am_l_toInt {v : Int} (h1 : -9223372036854775808 ≤ v) (h2 : v < 9223372036854775808) : (am_l v).toInt = v := Int64.toInt_ofInt_of_le (by omega) (by omega)
theorem lg_lt (x y : Int64) : lg_cmp x y < 0 ↔ x.toInt < y.toInt := by
  unfold lg_cmp
  by_cases h : x > y
  · rw [if_pos h]
    have : y.toInt < x.toInt := Int64.lt_iff_toInt_lt.mp h
    constructor
    · intro q; exact absurd q (by decide)
    · intro q; omega
  · rw [if_neg h]
    have h2 : ¬ y.toInt < x.toInt := fun q => h (Int64.lt_iff_toInt_lt.mpr q)
    by_cases e : x = y
    · rw [if_pos e]
      constructor
      · intro q; exact absurd q (by decide)
      · intro q; rw [e] at q; omega
    · rw [if_neg e]
      have h3 : x.toInt ≠ y.toInt := fun q => e (Int64.toInt_inj.mp q)
      constructor
      · intro _; omega
      · intro _; decide
theorem lg_gt (x y : Int64) : 0 < lg_cmp x y ↔ y.toInt < x.toInt := by
  unfold lg_cmp
  by_cases h : x > y
  · rw [if_pos h]
    have : y.toInt < x.toInt := Int64.lt_iff_toInt_lt.mp h
    exact ⟨fun _ => this, fun _ => by decide⟩
  · rw [if_neg h]
    have h2 : ¬ y.toInt < x.toInt := fun q => h (Int64.lt_iff_toInt_lt.mpr q)
    by_cases e : x = y
    · rw [if_pos e]
      exact ⟨fun q => absurd q (by decide), fun q => absurd q h2⟩
    · rw [if_neg e]
      exact ⟨fun q => absurd q (by decide), fun q => absurd q h2⟩
/-- isIn -/
theorem e_isIn (d : Nat) (v a b : Int64) (M : am_Mem) : am_E (d + 1) 164 0 [(0, .long v), (2, .long a), (4, .long b)] [] M = some (some (.int (am_i (if a.toInt ≤ v.toInt ∧ v.toInt ≤ b.toInt then 1 else 0))), M) := by
  rw [sg_X12_isIn_0, sg_X12_isIn_17]
  simp only [lg_lt, lg_gt]
  by_cases h1 : v.toInt < a.toInt
  · rw [if_neg (by omega)]; simp [h1]
  · by_cases h2 : b.toInt < v.toInt
    · rw [if_neg (by omega)]; simp [h1, h2]
    · rw [if_pos (by omega)]; simp [h1, h2]
theorem am_ok_t {a : Int32} {n : Nat} (h0 : 0 ≤ a.toInt) (h1 : a.toInt < n) : am_ok a n = true := by
  unfold am_ok
  have h2 : (0 : Int32) ≤ a := Int32.le_iff_toInt_le.mpr h0
  have h3 : a.toNatClampNeg < n := by show a.toInt.toNat < n; omega
  simp [h2, h3]
theorem i32_lt0 (a : Int32) : a < 0 ↔ a.toInt < 0 := Int32.lt_iff_toInt_lt
theorem i32_0le (a : Int32) : 0 ≤ a ↔ 0 ≤ a.toInt := Int32.le_iff_toInt_le
theorem i32_ile {v : Int} (h1 : -2147483648 ≤ v) (h2 : v < 2147483648) (a : Int32) : am_i v ≤ a ↔ v ≤ a.toInt := by rw [Int32.le_iff_toInt_le, am_i_toInt h1 h2]
theorem i32_lei {v : Int} (h1 : -2147483648 ≤ v) (h2 : v < 2147483648) (a : Int32) : a ≤ am_i v ↔ a.toInt ≤ v := by rw [Int32.le_iff_toInt_le, am_i_toInt h1 h2]
/-- the class's refuse -/
theorem e_refuse (d k : Nat) (hk : k < 6) (I : tI) (J : tJ) (R : tR) (hx : st_Rx R) : am_E (d + 1) 155 0 [(0, .ref 3), (1, .int (am_i k))] [] (I, J, R, 138) = some (some (.int (am_i 0)), (am_up I 63 k (I 63 k + am_i 1), J, R, 138)) := by
  have hx' := hx
  unfold st_Rx at hx'
  have hok : am_ok (am_i k) 6 = true := am_ok_i (by omega) (by omega) (by omega)
  have hcl : (am_i k).toNatClampNeg = k := by rw [am_i_cl (by omega) (by omega)]; omega
  rw [sg_X11_refuse_0]
  simp only [hx', ly_csx, ly_cax, ly_cf, ly_kd, ly_ln, Bool.cond_decide, cond_true, cond_false, am_bI_s, am_bV_s, am_bL_s, am_let_s, Nat.blt, Nat.ble, Bool.and_true, Bool.true_and, Bool.and_self, Int.cast_ofNat_Int, hok, hcl]
theorem vRefd_inc {I : tI} (h : vRefd I) (q : Nat) : vRefd (am_up (am_up I 63 q (I 63 q + am_i 1)) 66 q (I 66 q + am_i 1)) := by
  intro k hk
  have e1 : am_up (am_up I 63 q (I 63 q + am_i 1)) 66 q (I 66 q + am_i 1) 63 k = if k = q then I 63 q + am_i 1 else I 63 k := by simp [am_up]
  have e2 : am_up (am_up I 63 q (I 63 q + am_i 1)) 66 q (I 66 q + am_i 1) 66 k = if k = q then I 66 q + am_i 1 else I 66 k := by simp [am_up]
  rw [e1, e2]
  by_cases e : k = q
  · subst e; rw [if_pos rfl, if_pos rfl, h k hk]
  · rw [if_neg e, if_neg e, h k hk]
section PRS
variable {W : tI → tJ → tR → Prop} {L : Nat} {xs : Nat → Int32}
theorem p_status (d : Nat) (a1 : Int32) : pr_I (vV W L xs) (d + 3) 135 295 [(1, .int a1)] := by
  intro I J R hV
  have hV0 := hV
  obtain ⟨⟨h1, h2, hx, hm, hmu⟩, ht, hr, hf, hp, hs, hd, hw⟩ := hV
  have hx' := hx
  have hm' := hm
  unfold st_Rx at hx'
  unfold st_Rm at hm'
  have hi : a1.toInt64.toInt = a1.toInt := Int32.toInt_toInt64 a1
  by_cases h : 0 ≤ a1.toInt ∧ a1.toInt ≤ 5
  · have hok : am_ok a1 6 = true := am_ok_t h.1 (by omega)
    have hk : a1.toNatClampNeg < 6 := (am_ok_spec hok).2
    have c1 : ¬ a1 < 0 := by rw [i32_lt0]; omega
    have c2 : ¬ am_i 6 ≤ a1 := by rw [i32_ile (by decide) (by decide)]; omega
    refine ⟨I 63 a1.toNatClampNeg, I, J, R, I, J, R, ?_, rfl, rfl, ?_, hV0⟩
    · rw [sg_X11_status_0]
      simp only [hx', ly_csx, ly_cax, ly_cf, ly_kd, ly_ln, Bool.cond_decide, cond_true, cond_false, am_bI_s, am_bV_s, am_bL_s, am_let_s, Nat.blt, Nat.ble, Bool.and_true, Bool.true_and, Bool.and_self, Int.cast_ofNat_Int, hok, if_neg c1, if_neg c2]
    · rw [sg_X12_status_0, e_isIn, hi]
      rw [if_pos (by rw [am_l_toInt (by decide) (by decide), am_l_toInt (by decide) (by decide)]; exact h)]
      simp only [hm', ly_csm, ly_cam, ly_cf, ly_kd, ly_ln, Bool.cond_decide, cond_true, cond_false, am_bI_s, am_bV_s, am_bL_s, am_let_s, Nat.blt, Nat.ble, Bool.and_true, Bool.true_and, Bool.and_self, Int.cast_ofNat_Int, hok, hr _ hk]
      rw [if_neg (by decide)]
  · refine ⟨am_i (-1), I, J, R, I, J, R, ?_, rfl, rfl, ?_, hV0⟩
    · rw [sg_X11_status_0]
      simp only [hx', ly_csx, ly_cax, ly_cf, ly_kd, ly_ln, Bool.cond_decide, cond_true, cond_false, am_bI_s, am_bV_s, am_bL_s, am_let_s, Nat.blt, Nat.ble, Bool.and_true, Bool.true_and, Bool.and_self, Int.cast_ofNat_Int, sg_X11_status_22]
      by_cases c1 : a1 < 0
      · rw [if_pos c1]
      · have c2 : am_i 6 ≤ a1 := by rw [i32_ile (by decide) (by decide)]; rw [i32_lt0] at c1; omega
        rw [if_neg c1, if_pos c2]
    · rw [sg_X12_status_0, e_isIn, hi]
      rw [if_neg (by rw [am_l_toInt (by decide) (by decide), am_l_toInt (by decide) (by decide)]; exact h)]
      simp only [hm', ly_csm, ly_cam, ly_cf, ly_kd, ly_ln, Bool.cond_decide, cond_true, cond_false, am_bI_s, am_bV_s, am_bL_s, am_let_s, Nat.blt, Nat.ble, Bool.and_true, Bool.true_and, Bool.and_self, Int.cast_ofNat_Int]
      rw [if_pos (by decide)]
theorem p_octet (d : Nat) (a1 : Int32) : pr_I (vV W L xs) (d + 3) 133 291 [(1, .int a1)] := by
  intro I J R hV
  have hV0 := hV
  obtain ⟨⟨h1, h2, hx, hm, hmu⟩, ht, hr, hf, ⟨n, hn, hp1, hp2, hp3⟩, hs, hd, hw⟩ := hV
  have hx' := hx
  have hm' := hm
  unfold st_Rx at hx'
  unfold st_Rm at hm'
  by_cases c1 : a1 < 0
  · refine ⟨am_i (-1), I, J, R, I, J, R, ?_, rfl, rfl, ?_, hV0⟩
    · rw [sg_X11_octet_0]
      simp only [hx', ly_csx, ly_cax, ly_cf, ly_kd, ly_ln, Bool.cond_decide, cond_true, cond_false, am_bI_s, am_bV_s, am_bL_s, am_let_s, Nat.blt, Nat.ble, Bool.and_true, Bool.true_and, Bool.and_self, Int.cast_ofNat_Int, sg_X11_octet_27, if_pos c1]
    · rw [sg_X12_octet_0]
      simp only [hm', ly_csm, ly_cam, ly_cf, ly_kd, ly_ln, Bool.cond_decide, cond_true, cond_false, am_bI_s, am_bV_s, am_bL_s, am_let_s, Nat.blt, Nat.ble, Bool.and_true, Bool.true_and, Bool.and_self, Int.cast_ofNat_Int, sg_X12_octet_21, if_pos c1]
  · by_cases c2 : am_i (n : Int) ≤ a1
    · refine ⟨am_i (-1), I, J, R, I, J, R, ?_, rfl, rfl, ?_, hV0⟩
      · rw [sg_X11_octet_0]
        simp only [hx', ly_csx, ly_cax, ly_cf, ly_kd, ly_ln, Bool.cond_decide, cond_true, cond_false, am_bI_s, am_bV_s, am_bL_s, am_let_s, Nat.blt, Nat.ble, Bool.and_true, Bool.true_and, Bool.and_self, Int.cast_ofNat_Int, sg_X11_octet_27, if_neg c1, hp1, if_pos c2]
      · rw [sg_X12_octet_0]
        simp only [hm', ly_csm, ly_cam, ly_cf, ly_kd, ly_ln, Bool.cond_decide, cond_true, cond_false, am_bI_s, am_bV_s, am_bL_s, am_let_s, Nat.blt, Nat.ble, Bool.and_true, Bool.true_and, Bool.and_self, Int.cast_ofNat_Int, sg_X12_octet_21, if_neg c1, hp2, if_pos c2]
    · have hlt : a1.toInt < n := by rw [i32_ile (by omega) (by omega)] at c2; omega
      have hge : 0 ≤ a1.toInt := by rw [i32_lt0] at c1; omega
      have hok : am_ok a1 69 = true := am_ok_t hge (by omega)
      have hk : a1.toNatClampNeg < n := by show a1.toInt.toNat < n; omega
      refine ⟨I 62 a1.toNatClampNeg, I, J, R, I, J, R, ?_, rfl, rfl, ?_, hV0⟩
      · rw [sg_X11_octet_0]
        simp only [hx', ly_csx, ly_cax, ly_cf, ly_kd, ly_ln, Bool.cond_decide, cond_true, cond_false, am_bI_s, am_bV_s, am_bL_s, am_let_s, Nat.blt, Nat.ble, Bool.and_true, Bool.true_and, Bool.and_self, Int.cast_ofNat_Int, if_neg c1, hp1, if_neg c2, hok]
      · rw [sg_X12_octet_0]
        simp only [hm', ly_csm, ly_cam, ly_cf, ly_kd, ly_ln, Bool.cond_decide, cond_true, cond_false, am_bI_s, am_bV_s, am_bL_s, am_let_s, Nat.blt, Nat.ble, Bool.and_true, Bool.true_and, Bool.and_self, Int.cast_ofNat_Int, if_neg c1, hp2, if_neg c2, hok, hp3 _ hk]
theorem p_fault (d : Nat) (a1 : Int32) : pr_I (vV W L xs) (d + 3) 103 191 [(1, .int a1)] := by
  intro I J R hV
  have hV0 := hV
  obtain ⟨⟨h1, h2, hx, hm, hmu⟩, ht, hr, hf, hp, hs, hd, hw⟩ := hV
  have hx' := hx
  have hm' := hm
  unfold st_Rx at hx'
  unfold st_Rm at hm'
  refine ⟨if a1 ≠ 0 then (if a1 ≠ am_i 1 then am_i (-1) else I 5 11) else I 5 10, I, J, R, I, J, R, ?_, rfl, rfl, ?_, hV0⟩
  · rw [sg_X11_fault_0]
    simp only [hx', ly_csx, ly_cax, ly_cf, ly_kd, ly_ln, Bool.cond_decide, cond_true, cond_false, am_bI_s, am_bV_s, am_bL_s, am_let_s, Nat.blt, Nat.ble, Bool.and_true, Bool.true_and, Bool.and_self, Int.cast_ofNat_Int]
    by_cases c0 : a1 ≠ 0
    · by_cases c1 : a1 ≠ am_i 1
      · simp only [if_pos c0, if_pos c1]
      · simp only [if_pos c0, if_neg c1]
    · simp only [if_neg c0]
  · rw [sg_X12_fault_0]
    simp only [hm', ly_csm, ly_cam, ly_cf, ly_kd, ly_ln, Bool.cond_decide, cond_true, cond_false, am_bI_s, am_bV_s, am_bL_s, am_let_s, Nat.blt, Nat.ble, Bool.and_true, Bool.true_and, Bool.and_self, Int.cast_ofNat_Int, ← hf.1, ← hf.2]
    by_cases c0 : a1 ≠ 0
    · by_cases c1 : a1 ≠ am_i 1
      · simp only [if_pos c0, if_pos c1]
      · simp only [if_pos c0, if_neg c1]
    · simp only [if_neg c0]
theorem p_seed (hW : wC W) (d : Nat) (a1 : Int32) : pr_I (vV W L xs) (d + 3) 130 256 [(1, .int a1)] := by
  intro I J R hV
  obtain ⟨⟨h1, h2, hx, hm, hmu⟩, ht, hr, hf, hp, hs, hd, hw⟩ := hV
  have hx' := hx
  have hm' := hm
  unfold st_Rx at hx'
  unfold st_Rm at hm'
  by_cases c0 : 0 ≤ a1
  · refine ⟨am_i 1, am_up I 3 17 a1, J, R, am_up I 3 17 a1, am_up J 64 70 a1.toInt64, R, ?_, ?_, rfl, ?_, ?_⟩
    · rw [sg_X11_seed_0]
      simp only [hx', ly_csx, ly_cax, ly_cf, ly_kd, ly_ln, Bool.cond_decide, cond_true, cond_false, am_bI_s, am_bV_s, am_bL_s, am_let_s, Nat.blt, Nat.ble, Bool.and_true, Bool.true_and, Bool.and_self, Int.cast_ofNat_Int, if_pos c0]
    · rw [am_up_ap]; rfl
    · rw [sg_X12_seed_0]
      simp only [hm', ly_csm, ly_cam, ly_cf, ly_kd, ly_ln, Bool.cond_decide, cond_true, cond_false, am_bI_s, am_bV_s, am_bL_s, am_let_s, Nat.blt, Nat.ble, Bool.and_true, Bool.true_and, Bool.and_self, Int.cast_ofNat_Int, if_pos c0]
    · refine ⟨⟨by rw [am_up_ap]; exact h1, h2, hx, hm, hmu⟩, cg_up vTape_cg _ rfl ht, cg_up vRefd_cg _ rfl hr, cg_up vFault_cg _ rfl hf, cg_up vPic_cg _ rfl hp, cg_up vSeen_cg _ rfl hs, ?_, cg_up (wC_I hW _ _) _ rfl (wC_J hW _ rfl hw)⟩
      rw [i32_0le] at c0
      have hlt := Int32.toInt_lt a1
      refine ⟨a1.toInt.toNat, by omega, ?_, ?_⟩
      · rw [am_up_ap]
        show a1 = _
        rw [Int.toNat_of_nonneg c0]
        exact (Int32.ofInt_toInt a1).symm
      · rw [am_up_ap]
        show a1.toInt64 = _
        rw [Int.toNat_of_nonneg c0]
        apply Int64.toInt_inj.mp
        rw [am_l_toInt (by omega) (by omega)]
        exact Int32.toInt_toInt64 a1
  · refine ⟨am_i 0, am_up I 63 5 (I 63 5 + am_i 1), J, R, am_up (am_up I 63 5 (I 63 5 + am_i 1)) 66 5 (I 66 5 + am_i 1), J, R, ?_, ?_, rfl, ?_, ?_⟩
    · rw [sg_X11_seed_0]
      simp only [hx', ly_csx, ly_cax, ly_cf, ly_kd, ly_ln, Bool.cond_decide, cond_true, cond_false, am_bI_s, am_bV_s, am_bL_s, am_let_s, Nat.blt, Nat.ble, Bool.and_true, Bool.true_and, Bool.and_self, Int.cast_ofNat_Int, if_neg c0]
      rw [show am_i 5 = am_i ((5 : Nat) : Int) from rfl, e_refuse _ 5 (by decide) I J R hx]
      simp only [hx', ly_csx, ly_cax, ly_cf, ly_kd, ly_ln, Bool.cond_decide, cond_true, cond_false, am_bI_s, am_bV_s, am_bL_s, am_let_s, Nat.blt, Nat.ble, Bool.and_true, Bool.true_and, Bool.and_self, Int.cast_ofNat_Int, am_zb0]
    · rw [am_up_ap]; rfl
    · rw [sg_X12_seed_0]
      have hok : am_ok (am_i 5) 6 = true := by decide
      have hcl : (am_i 5).toNatClampNeg = 5 := by decide
      simp only [hm', ly_csm, ly_cam, ly_cf, ly_kd, ly_ln, Bool.cond_decide, cond_true, cond_false, am_bI_s, am_bV_s, am_bL_s, am_let_s, Nat.blt, Nat.ble, Bool.and_true, Bool.true_and, Bool.and_self, Int.cast_ofNat_Int, if_neg c0, hok, hcl]
      rfl
    · refine ⟨⟨by rw [am_up_ap, am_up_ap]; exact h1, h2, hx, hm, hmu⟩, cg_up vTape_cg _ rfl (cg_up vTape_cg _ rfl ht), vRefd_inc hr 5, cg_up vFault_cg _ rfl (cg_up vFault_cg _ rfl hf), cg_up vPic_cg _ rfl (cg_up vPic_cg _ rfl hp), cg_up vSeen_cg _ rfl (cg_up vSeen_cg _ rfl hs), cg_up (vSeed_cg _) _ rfl (cg_up (vSeed_cg _) _ rfl hd), cg_up (wC_I hW _ _) _ rfl (cg_up (wC_I hW _ _) _ rfl hw)⟩
theorem p_end (hW : wC W) (d : Nat) (a1 : Int32) : pr_I (vV W L xs) (d + 3) 101 166 [(1, .int a1)] := by
  intro I J R hV
  obtain ⟨⟨h1, h2, hx, hm, hmu⟩, ⟨n, hn, t1, t2, t3⟩, hr, hf, hp, hs, hd, hw⟩ := hV
  have hx' := hx
  have hm' := hm
  unfold st_Rx at hx'
  unfold st_Rm at hm'
  by_cases c : 0 ≤ a1.toInt ∧ a1.toInt ≤ n
  · have c0 : ¬ a1 < 0 := by rw [i32_lt0]; omega
    have c1 : a1 ≤ am_i (n : Int) := by rw [i32_lei (by omega) (by omega)]; omega
    refine ⟨am_i 1, am_up I 3 1 a1, J, R, am_up (am_up I 3 1 a1) 64 1 a1, J, R, ?_, ?_, rfl, ?_, ?_⟩
    · rw [sg_X11_end_0]
      simp only [hx', ly_csx, ly_cax, ly_cf, ly_kd, ly_ln, Bool.cond_decide, cond_true, cond_false, am_bI_s, am_bV_s, am_bL_s, am_let_s, Nat.blt, Nat.ble, Bool.and_true, Bool.true_and, Bool.and_self, Int.cast_ofNat_Int, if_neg c0, t1, if_pos c1]
    · rw [am_up_ap]; rfl
    · rw [sg_X12_end_0]
      have t2' : am_up I 3 1 a1 64 1 = am_i (n : Int) := t2
      simp only [hm', ly_csm, ly_cam, ly_cf, ly_kd, ly_ln, Bool.cond_decide, cond_true, cond_false, am_bI_s, am_bV_s, am_bL_s, am_let_s, Nat.blt, Nat.ble, Bool.and_true, Bool.true_and, Bool.and_self, Int.cast_ofNat_Int, if_neg c0, t2', if_pos c1]
    · refine ⟨⟨by rw [am_up_ap, am_up_ap]; exact h1, h2, hx, hm, hmu⟩, ?_, cg_up vRefd_cg _ rfl (cg_up vRefd_cg _ rfl hr), cg_up vFault_cg _ rfl (cg_up vFault_cg _ rfl hf), cg_up vPic_cg _ rfl (cg_up vPic_cg _ rfl hp), cg_up vSeen_cg _ rfl (cg_up vSeen_cg _ rfl hs), cg_up (vSeed_cg _) _ rfl (cg_up (vSeed_cg _) _ rfl hd), cg_up (wC_I hW _ _) _ rfl (cg_up (wC_I hW _ _) _ rfl hw)⟩
      have ea : a1 = am_i (a1.toInt.toNat : Int) := by
        rw [Int.toNat_of_nonneg c.1]
        exact (Int32.ofInt_toInt a1).symm
      refine ⟨a1.toInt.toNat, by omega, ea, ea, fun k hk => t3 k (by omega)⟩
  · have cc : ∀ (x y : am_R), (if a1 < 0 then x else if a1 ≤ am_i (n : Int) then y else x) = x := by
      intro x y
      by_cases c0 : a1 < 0
      · rw [if_pos c0]
      · rw [if_neg c0, if_neg]
        rw [i32_lei (by omega) (by omega)]
        rw [i32_lt0] at c0
        omega
    refine ⟨am_i 0, am_up I 63 0 (I 63 0 + am_i 1), J, R, am_up (am_up I 63 0 (I 63 0 + am_i 1)) 66 0 (I 66 0 + am_i 1), J, R, ?_, ?_, rfl, ?_, ?_⟩
    · rw [sg_X11_end_0]
      simp only [hx', ly_csx, ly_cax, ly_cf, ly_kd, ly_ln, Bool.cond_decide, cond_true, cond_false, am_bI_s, am_bV_s, am_bL_s, am_let_s, Nat.blt, Nat.ble, Bool.and_true, Bool.true_and, Bool.and_self, Int.cast_ofNat_Int, t1]
      rw [cc, sg_X11_end_12]
      simp only [hx', ly_csx, ly_cax, ly_cf, ly_kd, ly_ln, Bool.cond_decide, cond_true, cond_false, am_bI_s, am_bV_s, am_bL_s, am_let_s, Nat.blt, Nat.ble, Bool.and_true, Bool.true_and, Bool.and_self, Int.cast_ofNat_Int]
      rw [show am_i 0 = am_i ((0 : Nat) : Int) from rfl, e_refuse _ 0 (by decide) I J R hx]
      simp only [hx', ly_csx, ly_cax, ly_cf, ly_kd, ly_ln, Bool.cond_decide, cond_true, cond_false, am_bI_s, am_bV_s, am_bL_s, am_let_s, Nat.blt, Nat.ble, Bool.and_true, Bool.true_and, Bool.and_self, Int.cast_ofNat_Int, am_zb0]
    · rw [am_up_ap]; rfl
    · rw [sg_X12_end_0]
      have t2' : am_up I 63 0 (I 63 0 + am_i 1) 64 1 = am_i (n : Int) := t2
      simp only [hm', ly_csm, ly_cam, ly_cf, ly_kd, ly_ln, Bool.cond_decide, cond_true, cond_false, am_bI_s, am_bV_s, am_bL_s, am_let_s, Nat.blt, Nat.ble, Bool.and_true, Bool.true_and, Bool.and_self, Int.cast_ofNat_Int, t2']
      rw [cc, sg_X12_end_12]
      have hok : am_ok (am_i 0) 6 = true := by decide
      have hcl : (am_i 0).toNatClampNeg = 0 := by decide
      simp only [hm', ly_csm, ly_cam, ly_cf, ly_kd, ly_ln, Bool.cond_decide, cond_true, cond_false, am_bI_s, am_bV_s, am_bL_s, am_let_s, Nat.blt, Nat.ble, Bool.and_true, Bool.true_and, Bool.and_self, Int.cast_ofNat_Int, hok, hcl]
      rfl
    · refine ⟨⟨by rw [am_up_ap, am_up_ap]; exact h1, h2, hx, hm, hmu⟩, cg_up vTape_cg _ rfl (cg_up vTape_cg _ rfl ⟨n, hn, t1, t2, t3⟩), vRefd_inc hr 0, cg_up vFault_cg _ rfl (cg_up vFault_cg _ rfl hf), cg_up vPic_cg _ rfl (cg_up vPic_cg _ rfl hp), cg_up vSeen_cg _ rfl (cg_up vSeen_cg _ rfl hs), cg_up (vSeed_cg _) _ rfl (cg_up (vSeed_cg _) _ rfl hd), cg_up (wC_I hW _ _) _ rfl (cg_up (wC_I hW _ _) _ rfl hw)⟩
end PRS
