/-! ===== reads of the sound and of the boats ===== -/
def chR (R : tR) (c : Nat) : Prop := am_cf 138 c 1 = true ∧ R c 6 = c + 1 ∧ R c 7 = c + 2 ∧ R c 8 = c + 3 ∧ R c 9 = c + 4 ∧ R c 10 = c + 5 ∧ R c 11 = c + 6 ∧ R c 12 = c + 7 ∧ R c 13 = c + 8 ∧ R c 14 = c + 9 ∧
  (∀ i, am_cs R 138 (c + 1) i = am_ok i 6) ∧ (∀ i, am_cs R 138 (c + 2) i = am_ok i 6) ∧ (∀ i, am_cs R 138 (c + 3) i = am_ok i 6) ∧ (∀ i, am_cs R 138 (c + 4) i = am_ok i 6) ∧ (∀ i, am_cs R 138 (c + 5) i = am_ok i 66) ∧ (∀ i, am_cs R 138 (c + 6) i = am_ok i 61) ∧ (∀ i, am_cs R 138 (c + 7) i = am_ok i 1600) ∧ (∀ i, am_cs R 138 (c + 8) i = am_ok i 3) ∧ (∀ i, am_cs R 138 (c + 9) i = am_ok i 3)
theorem ch_of {R : tR} {c : Nat} (hx : st_Rx R) (hc : c = 10 ∨ c = 20) : chR R c := by
  unfold st_Rx at hx
  rcases hc with rfl | rfl
  · simp only [chR, hx, Nat.reduceAdd, ly_cf, ly_csx, implies_true, and_self]
  · simp only [chR, hx, Nat.reduceAdd, ly_cf, ly_csx, implies_true, and_self]
def b01 (p : Prop) [Decidable p] : Int32 := am_i (if p then 1 else 0)
theorem b01_t {p : Prop} [Decidable p] (h : p) : b01 p = am_i 1 := by unfold b01; rw [if_pos h]
theorem b01_f {p : Prop} [Decidable p] (h : ¬ p) : b01 p = am_i 0 := by unfold b01; rw [if_neg h]
theorem am1z : ¬ am_i 1 = 0 := by decide
theorem am0z : am_i 0 = 0 := by decide
theorem e_xisBoat (d : Nat) (a : Int32) (nb c : Nat) (I : tI) (J : tJ) (R : tR) (hx : st_Rx R) (h4 : R 3 4 = c) (hc : c = 10 ∨ c = 20) (hn : nb ≤ 6) (h : I c 1 = am_i nb) : am_E (d + 1) 137 0 [(0, .ref 3), (1, .int a)] [] (I, J, R, 138) = some (some (.int (b01 (0 ≤ a.toInt ∧ a.toInt < nb))), (I, J, R, 138)) := by
  have hx' := hx
  unfold st_Rx at hx'
  have hch := ch_of hx hc
  unfold chR at hch
  rw [sg_X11_isBoat_0]
  simp only [hx', ly_csx, ly_cax, ly_cf, ly_kd, ly_ln, Bool.cond_decide, cond_true, cond_false, am_bI_s, am_bV_s, am_bL_s, am_let_s, Nat.blt, Nat.ble, Bool.and_true, Bool.true_and, Bool.and_self, Int.cast_ofNat_Int, h4, hch, h, sg_X11_isBoat_19]
  by_cases c1 : a < 0
  · rw [if_pos c1, b01_f (by rw [i32_lt0] at c1; omega)]
  · rw [if_neg c1]
    rw [i32_lt0] at c1
    by_cases c2 : am_i (nb : Int) ≤ a
    · rw [if_pos c2, b01_f (by rw [i32_ile (by omega) (by omega)] at c2; omega)]
    · rw [if_neg c2, b01_t (by rw [i32_ile (by omega) (by omega)] at c2; omega)]
theorem e_xisRider (d : Nat) (a : Int32) (nb c : Nat) (I : tI) (J : tJ) (R : tR) (hx : st_Rx R) (h4 : R 3 4 = c) (hc : c = 10 ∨ c = 20) (hn : nb ≤ 6) (h : I c 2 = am_i nb) : am_E (d + 1) 138 0 [(0, .ref 3), (1, .int a)] [] (I, J, R, 138) = some (some (.int (b01 (0 ≤ a.toInt ∧ a.toInt < nb))), (I, J, R, 138)) := by
  have hx' := hx
  unfold st_Rx at hx'
  have hch := ch_of hx hc
  unfold chR at hch
  rw [sg_X11_isRider_0]
  simp only [hx', ly_csx, ly_cax, ly_cf, ly_kd, ly_ln, Bool.cond_decide, cond_true, cond_false, am_bI_s, am_bV_s, am_bL_s, am_let_s, Nat.blt, Nat.ble, Bool.and_true, Bool.true_and, Bool.and_self, Int.cast_ofNat_Int, h4, hch, h, sg_X11_isRider_19]
  by_cases c1 : a < 0
  · rw [if_pos c1, b01_f (by rw [i32_lt0] at c1; omega)]
  · rw [if_neg c1]
    rw [i32_lt0] at c1
    by_cases c2 : am_i (nb : Int) ≤ a
    · rw [if_pos c2, b01_f (by rw [i32_ile (by omega) (by omega)] at c2; omega)]
    · rw [if_neg c2, b01_t (by rw [i32_ile (by omega) (by omega)] at c2; omega)]
theorem b01_isIn (a : Int32) (n : Nat) (hn : n < 1000000) : am_i (if (am_l 0).toInt ≤ a.toInt64.toInt ∧ a.toInt64.toInt ≤ (am_i (n : Int) - am_i 1).toInt64.toInt then 1 else 0) = b01 (0 ≤ a.toInt ∧ a.toInt < n) := by
  unfold b01
  rw [Int32.toInt_toInt64, Int32.toInt_toInt64, am_i_sub, am_i_toInt (by omega) (by omega), am_l_toInt (by decide) (by decide)]
  congr 2
  apply propext
  omega
theorem b01_zb {p : Prop} [Decidable p] : am_zb (b01 p) = true := by
  by_cases h : p
  · rw [b01_t h]; exact am_zb1
  · rw [b01_f h]; exact am_zb0
theorem e_misBoat (d : Nat) (a : Int32) (nb : Nat) (I : tI) (J : tJ) (R : tR) (hm : st_Rm R) (hn : nb ≤ 6) (h : I 94 3 = am_i nb) : am_E (d + 2) 194 0 [(0, .ref 64), (1, .int a)] [] (I, J, R, 138) = some (some (.int (b01 (0 ≤ a.toInt ∧ a.toInt < nb))), (I, J, R, 138)) := by
  have hm' := hm
  unfold st_Rm at hm'
  have hok : am_ok (am_i 3) 6 = true := by decide
  have hcl : (am_i 3).toNatClampNeg = 3 := by decide
  rw [sg_X12_isBoat_0]
  simp only [hm', ly_csm, ly_cam, ly_cf, ly_kd, ly_ln, Bool.cond_decide, cond_true, cond_false, am_bI_s, am_bV_s, am_bL_s, am_let_s, Nat.blt, Nat.ble, Bool.and_true, Bool.true_and, Bool.and_self, Int.cast_ofNat_Int, sg_X12_boatMany_0, hok, hcl, h, e_isIn, b01_isIn a nb (by omega), b01_zb]
section PRD
variable {L : Nat} {xs : Nat → Int32}
theorem p_rider (d : Nat) (a1 : Int32) : pr_I (vV restW L xs) (d + 3) 110 224 [(1, .int a1)] := by
  intro I J R hV
  have hV0 := hV
  obtain ⟨⟨h1, h2, hx, hm, hmu⟩, ht, hr, hf, hp, hs, hd, hw⟩ := hV
  obtain ⟨c, last, nb, nr, nw, wd, sq, K, nt, wf, fm, h4, hc, hB, hN, hF, hS, hA, hX⟩ := hw
  obtain ⟨b1, b2, b3, b4, b5, b6, b7, b8, i0, m0, i1, m1, i2, m2, i3, m3, i4, m4, i5, m5, mS, mT, hnt, hky, hwf⟩ := hB
  have hx' := hx
  have hm' := hm
  unfold st_Rx at hx'
  unfold st_Rm at hm'
  have hch := ch_of hx hc
  unfold chR at hch
  have hok4 : am_ok (am_i 4) 6 = true := by decide
  have hcl4 : (am_i 4).toNatClampNeg = 4 := by decide
  by_cases hq : 0 ≤ a1.toInt ∧ a1.toInt < nr
  · obtain ⟨k, hk, hk1, hk2⟩ := hky a1.toInt.toNat (by omega)
    have hok : am_ok a1 6 = true := am_ok_t hq.1 (by omega)
    have ea : a1 = am_i (a1.toInt.toNat : Int) := by rw [Int.toNat_of_nonneg hq.1]; exact (Int32.ofInt_toInt a1).symm
    have e6 : am_i 6 + a1 = am_i ((6 + a1.toInt.toNat : Nat) : Int) := by rw [ea, am_i_add, ← ea]; rfl
    have hok2 : am_ok (am_i ((6 + a1.toInt.toNat : Nat) : Int)) 12 = true := am_ok_i (by omega) (by omega) (by omega)
    have hcl2 : (am_i ((6 + a1.toInt.toNat : Nat) : Int)).toNatClampNeg = 6 + a1.toInt.toNat := by rw [am_i_cl (by omega) (by omega)]; omega
    have hk1' : I (c + 3) a1.toNatClampNeg = am_i k := hk1
    refine ⟨am_i k, I, J, R, I, J, R, ?_, rfl, rfl, ?_, hV0⟩
    · rw [sg_X11_rider_0]
      simp only [hx', ly_csx, ly_cax, ly_cf, ly_kd, ly_ln, Bool.cond_decide, cond_true, cond_false, am_bI_s, am_bV_s, am_bL_s, am_let_s, Nat.blt, Nat.ble, Bool.and_true, Bool.true_and, Bool.and_self, Int.cast_ofNat_Int, h4, hch, e_xisRider _ a1 nr c I J R hx h4 hc b4 i2, b01_t hq, hok, hk1', if_neg am1z]
    · rw [sg_X12_rider_0]
      simp only [hm', ly_csm, ly_cam, ly_cf, ly_kd, ly_ln, Bool.cond_decide, cond_true, cond_false, am_bI_s, am_bV_s, am_bL_s, am_let_s, Nat.blt, Nat.ble, Bool.and_true, Bool.true_and, Bool.and_self, Int.cast_ofNat_Int, sg_X12_riderMany_0, hok4, hcl4, m2, e_isIn, b01_isIn a1 nr (by omega), b01_t hq, if_neg am1z, e6, hok2, hcl2, hk2]
  · refine ⟨am_i (-1), I, J, R, I, J, R, ?_, rfl, rfl, ?_, hV0⟩
    · rw [sg_X11_rider_0]
      simp only [hx', ly_csx, ly_cax, ly_cf, ly_kd, ly_ln, Bool.cond_decide, cond_true, cond_false, am_bI_s, am_bV_s, am_bL_s, am_let_s, Nat.blt, Nat.ble, Bool.and_true, Bool.true_and, Bool.and_self, Int.cast_ofNat_Int, h4, hch, e_xisRider _ a1 nr c I J R hx h4 hc b4 i2, b01_f hq, if_pos am0z]
    · rw [sg_X12_rider_0]
      simp only [hm', ly_csm, ly_cam, ly_cf, ly_kd, ly_ln, Bool.cond_decide, cond_true, cond_false, am_bI_s, am_bV_s, am_bL_s, am_let_s, Nat.blt, Nat.ble, Bool.and_true, Bool.true_and, Bool.and_self, Int.cast_ofNat_Int, sg_X12_riderMany_0, hok4, hcl4, m2, e_isIn, b01_isIn a1 nr (by omega), b01_f hq, if_pos am0z]
end PRD
