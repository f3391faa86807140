/-! ===== sound ===== -/
/-- what the rest looks at -/
def rsD (c q j : Nat) : Prop := (c ≤ q ∧ q ≤ c + 9) ∨ q = 6 ∨ (31 ≤ q ∧ q ≤ 34) ∨ (67 ≤ q ∧ q ≤ 92) ∨ (q = 93 ∧ 3 ≤ j) ∨ (q = 94 ∧ 3 ≤ j) ∨ (q = 96 ∧ 24 ≤ j) ∨ (q = 98 ∧ 6 ≤ j) ∨ (q = 99 ∧ 488 ≤ j) ∨ ((q = 100 ∨ q = 101) ∧ 3 ≤ j) ∨ (q = 102 ∧ 1600 ≤ j) ∨ q = 103 ∨ (110 ≤ q ∧ q ≤ 133) ∨ (q = 64 ∧ (j = 50 ∨ j = 58 ∨ j = 68 ∨ j = 69))
theorem restW_S {I I' : tI} {J J' : tJ} {R R' : tR} {c0 : Nat} (h0 : R 3 4 = c0) (hW : restW I J R) (e : ∀ q j, rsD c0 q j → I' q j = I q j) (eJ : ∀ j, 16 ≤ j → J' 95 j = J 95 j) (eR : R' 3 4 = R 3 4) : restW I' J' R' := by
  obtain ⟨c, last, nb, nr, nw, wd, sq, K, nt, wf, fm, h4, hc, hB, hN, hF, hS, hA, hX⟩ := hW
  have hcc : c = c0 := by rw [← h4, h0]
  subst hcc
  obtain ⟨b1, b2, b3, b4, b5, b6, b7, b8, i0, m0, i1, m1, i2, m2, i3, m3, i4, m4, i5, m5, mS, mT, hnt, hky, hwf⟩ := hB
  have ec : ∀ k j, k ≤ 9 → I' (c + k) j = I (c + k) j := fun k j hk => e _ _ (Or.inl (by omega))
  have ec0 : ∀ j, I' c j = I c j := fun j => e _ _ (Or.inl (by omega))
  have e31 : I' 31 = I 31 := funext fun k => e 31 k (by unfold rsD; omega)
  have e32 : I' 32 = I 32 := funext fun k => e 32 k (by unfold rsD; omega)
  have e33 : I' 33 = I 33 := funext fun k => e 33 k (by unfold rsD; omega)
  have e34 : I' 34 = I 34 := funext fun k => e 34 k (by unfold rsD; omega)
  have e103 : I' 103 = I 103 := funext fun k => e 103 k (by unfold rsD; omega)
  have e110 : I' 110 = I 110 := funext fun k => e 110 k (by unfold rsD; omega)
  refine ⟨c, last, nb, nr, nw, wd, sq, K, nt, wf, fm, by rw [eR]; exact h4, hc, ⟨b1, b2, b3, b4, b5, b6, b7, b8, ?_, ?_, ?_, ?_, ?_, ?_, ?_, ?_, ?_, ?_, ?_, ?_, ?_, ?_, fun b hb => ?_, fun r hr => ?_, fun m hm => ?_⟩, ⟨fun b hb => ?_, fun r hr => ?_⟩, fun hl f hf => ?_, ?_, ?_, fun q hq => ?_⟩
  · rw [ec0]; exact i0
  · rw [e _ _ (by unfold rsD; omega)]; exact m0
  · rw [ec0]; exact i1
  · rw [e _ _ (by unfold rsD; omega)]; exact m1
  · rw [ec0]; exact i2
  · rw [e _ _ (by unfold rsD; omega)]; exact m2
  · rw [ec0]; exact i3
  · rw [e _ _ (by unfold rsD; omega)]; exact m3
  · rw [ec0]; exact i4
  · rw [e _ _ (by unfold rsD; omega)]; exact m4
  · rw [ec0]; exact i5
  · rw [e _ _ (by unfold rsD; omega)]; exact m5
  · rw [e _ _ (by unfold rsD; omega)]; exact mS
  · rw [e _ _ (by unfold rsD; omega)]; exact mT
  · obtain ⟨y1, y2, y3⟩ := hnt b hb
    exact ⟨y1, by rw [ec _ _ (by omega)]; exact y2, by rw [e _ _ (by unfold rsD; omega)]; exact y3⟩
  · obtain ⟨k, y1, y2, y3⟩ := hky r hr
    exact ⟨k, y1, by rw [ec _ _ (by omega)]; exact y2, by rw [e _ _ (by unfold rsD; omega)]; exact y3⟩
  · obtain ⟨y1, y2, y3⟩ := hwf m hm
    exact ⟨y1, by rw [ec _ _ (by omega)]; exact y2, fun v hv => by rw [e _ _ (by unfold rsD; omega)]; exact y3 v hv⟩
  · rw [ec _ _ (by omega), eJ _ (by omega)]; exact hN.1 b hb
  · rw [ec _ _ (by omega), eJ _ (by omega)]; exact hN.2 r hr
  · obtain ⟨⟨a, y1, y2, y3, y4⟩, z, t⟩ := hF hl f hf
    refine ⟨⟨a, y1, by rw [ec _ _ (by omega)]; exact y2, by rw [ec _ _ (by omega)]; exact y3, fun k t ht => by rw [ec _ _ (by omega)]; exact y4 k t ht⟩, ?_, t⟩
    rcases z with ⟨z1, z2⟩ | ⟨a', z1, z2, z3, z4⟩
    · exact Or.inl ⟨by rw [e _ _ (by unfold rsD; omega)]; exact z1, z2⟩
    · exact Or.inr ⟨a', z1, by rw [e _ _ (by unfold rsD; omega)]; exact z2, by rw [e _ _ (by unfold rsD; omega)]; exact z3, fun k t ht => by rw [e _ _ (by unfold rsD; omega)]; exact z4 k t ht⟩
  · rw [e31, e32, e103]; exact hS
  · obtain ⟨n, x, Kf, y1, y2, y3, y4, y5, y6, y7, y8⟩ := hA
    refine ⟨n, x, Kf, y1, y2, by rw [e33]; exact y3, by rw [e _ _ (by unfold rsD; omega)]; exact y4, by rw [e33]; exact y5, by rw [e _ _ (by unfold rsD; omega)]; exact y6, y7, ?_⟩
    rw [e34, e32, e110]
    exact y8
  · rw [← hX q hq]
    funext k
    exact e q k (by unfold fixd at hq; simp at hq; unfold rsD; omega)
/-- how R may change -/
def rP (R R' : tR) : Prop := ∀ q k, ¬ (q = 3 ∧ (k = 4 ∨ k = 5)) → ¬ (q = 30 ∧ k = 2) → ¬ (q = 5 ∧ k = 1) → R' q k = R q k
theorem rP_x {R R' : tR} (h : rP R R') (hx : st_Rx R) : st_Rx R' := by
  unfold rP at h
  simp (disch := omega) only [st_Rx, h, rX hx, and_self]
theorem rP_m {R R' : tR} (h : rP R R') (hm : st_Rm R) : st_Rm R' := by
  unfold rP at h
  simp (disch := omega) only [st_Rm, h, rM hm, and_self]
/-- both charts and rows of a sound that stands -/
theorem restW_N {I : tI} {J : tJ} {R : tR} {c n p i x : Nat} {X : sSt} (h4 : R 3 4 = c) (hc : c = 10 ∨ c = 20) (hO : sOK n p i X) (hi : i ≤ 80) (hH : xHd c X I) (hF : ∀ f, f < 3 → frX I c f (fmX X f)) (hE : mEnd X I J) (h58 : I 64 58 = am_i 0) (h31 : ∀ k, k < 66 → I 31 k = I (c + 5) k) (h66 : I 31 66 = am_i 0) (h67 : I 31 67 = am_i 0) (h332 : I 33 2 = am_i 0) (hx : x < 20) (h331 : I 33 1 = am_i x) (h69 : I 64 69 = am_i x) (hX : ∀ q, fixd q = true → I q = am_K0 q) : restW I J R := by
  obtain ⟨⟨o1, o2, o3, o4, o5, o6, o7, o8, o9⟩, ob, ord, onm, owf, ofo⟩ := hO
  obtain ⟨⟨x0, x1, x2, x3, x4, x5⟩, xb, ⟨xz, xz2⟩, xr, xw⟩ := hH
  obtain ⟨⟨e3, e4, e5, e6, e7, e8, e9, e10, e11⟩, eb, ⟨ez0, ez1, ez⟩, er, ew, ef⟩ := hE
  have get : ∀ b, b < X.bn.length → ∃ y, X.bn[b]? = some y := fun b hb => ⟨_, List.getElem?_eq_getElem hb⟩
  have getr : ∀ b, b < X.rd.length → ∃ y, X.rd[b]? = some y := fun b hb => ⟨_, List.getElem?_eq_getElem hb⟩
  have ntv : ∀ b y, X.bn[b]? = some y → sLn X.bn b = y.sc.length := fun b y hy => by unfold sLn; rw [hy]; rfl
  refine ⟨c, X.la, X.bn.length, X.rd.length, X.nw, X.wd, X.sq, 0, sLn X.bn, X.wf, fmX X, h4, hc, ⟨Or.inr o1, o2, o6, o7, by omega, o3, o4, fun z => by omega, x0, e3, x1, e6, x2, e7, x3, e8, x4, e4, x5, e5, by rw [if_neg (by omega)]; exact e9, h58, fun b hb => ?_, fun r hr => ?_, fun m hm => ?_⟩, ⟨fun b hb => ?_, fun r hr => ?_⟩, fun _ f hf => ⟨hF f hf, ef f hf, ?_⟩, ?_, ?_, hX⟩
  · obtain ⟨y, hy⟩ := get b hb
    rw [ntv b y hy]
    exact ⟨(ob y (List.mem_of_getElem? hy)).2.2.2.1, (xb b y hy).2.1, (eb b y hy).2.1⟩
  · obtain ⟨y, hy⟩ := getr r hr
    exact ⟨y.2, ord y (List.mem_of_getElem? hy), (xr r y hy).2, (er r y hy).2⟩
  · exact ⟨owf m, xw m hm, fun v hv => ew m v hm hv⟩
  · obtain ⟨y, hy⟩ := get b hb
    have nm := onm y.nm (List.mem_append.mpr (Or.inl (List.mem_map.mpr ⟨y, List.mem_of_getElem? hy, rfl⟩)))
    exact ⟨y.nm, nm.1, nm.2.1, nm.2.2, (xb b y hy).1, (eb b y hy).1⟩
  · obtain ⟨y, hy⟩ := getr r hr
    have nm := onm y.1 (List.mem_append.mpr (Or.inr (List.mem_map.mpr ⟨y, List.mem_of_getElem? hy, rfl⟩)))
    exact ⟨y.1, nm.1, nm.2.1, nm.2.2, (xr r y hy).1, (er r y hy).1⟩
  · cases hq : X.fo f with
    | some al =>
      obtain ⟨a, l⟩ := al
      rw [fmX_s hq]
      exact (ofo f a l hq).2.2
    | none =>
      rw [fmX_n hq]
      have f3 : f = 0 ∨ f = 1 ∨ f = 2 := by omega
      rcases f3 with rfl | rfl | rfl
      · exact ⟨⟨false, rfl⟩, fun t ht => by
          have : t = (0, 1) := List.mem_singleton.mp ht
          subst this
          show (1 : Nat) ≤ 9999
          decide⟩
      · exact ⟨⟨false, rfl⟩, fun t ht => by
          have : t = (1, 3) := List.mem_singleton.mp ht
          subst this
          exact Or.inr (Or.inl rfl)⟩
      · exact ⟨⟨false, rfl⟩, fun t ht => by
          have : t = (0, 0) := List.mem_singleton.mp ht
          subst this
          show (0 : Nat) ≤ 9999
          decide⟩
  · refine ⟨0, fun b => match X.bn[b]? with | some y => (y.mi, y.ti, y.ro, 0, 0, fun k => (y.sc[k]?).getD 0) | none => (0, 0, 0, 0, 0, fun _ => 0), ⟨by omega, h66, ez0, fun b hb => ?_⟩, ⟨h67, ez1, fun k hk => absurd hk (by show ¬ k < min 40 0; omega)⟩, by omega⟩
    obtain ⟨y, hy⟩ := get b hb
    obtain ⟨y1, y2, y3, y4, y5⟩ := ob y (List.mem_of_getElem? hy)
    obtain ⟨z1, z2, z3, z4, z5, z6⟩ := xb b y hy
    obtain ⟨w1, w2, w3, w4, w5, w6⟩ := eb b y hy
    have b6 : b < 6 := by omega
    have sg : ∀ k, k < y.sc.length → ∃ v, y.sc[k]? = some v := fun k hk => ⟨_, List.getElem?_eq_getElem hk⟩
    show bOK X.la (sLn X.bn b) (match X.bn[b]? with | some y => (y.mi, y.ti, y.ro, 0, 0, fun k => (y.sc[k]?).getD 0) | none => (0, 0, 0, 0, 0, fun _ => 0)) ∧ bX (I 31) (11 * b) (sLn X.bn b) (match X.bn[b]? with | some y => (y.mi, y.ti, y.ro, 0, 0, fun k => (y.sc[k]?).getD 0) | none => (0, 0, 0, 0, 0, fun _ => 0)) ∧ bX (I 103) (1 + 11 * b) (sLn X.bn b) (match X.bn[b]? with | some y => (y.mi, y.ti, y.ro, 0, 0, fun k => (y.sc[k]?).getD 0) | none => (0, 0, 0, 0, 0, fun _ => 0))
    rw [ntv b y hy, hy]
    refine ⟨⟨y1, y2, y3, by show 0 ≤ 1; omega, Or.inr rfl, fun z => absurd z (by show ¬ ((0 : Nat) = 1); decide), fun k hk => ?_⟩, ⟨?_, ?_, ?_, ?_, ?_, fun k hk => ?_⟩, bX_i.mpr ⟨w3, w4, w5, (ez b b6).1, (ez b b6).2, fun k hk => ?_⟩⟩
    · obtain ⟨v, hv⟩ := sg k hk
      show (y.sc[k]?).getD 0 < 8
      rw [hv]
      exact y5 v (List.mem_of_getElem? hv)
    · rw [h31 _ (by omega)]; exact z3
    · rw [h31 _ (by omega)]; exact z4
    · rw [h31 _ (by omega)]; exact z5
    · rw [h31 _ (by omega)]; exact (xz2 b b6).1
    · rw [h31 _ (by omega)]; exact (xz2 b b6).2
    · obtain ⟨v, hv⟩ := sg k hk
      rw [h31 _ (by omega), z6 k v hv]
      show am_i (v : Int) = am_i (((y.sc[k]?).getD 0 : Nat) : Int)
      rw [hv]; rfl
    · obtain ⟨v, hv⟩ := sg k hk
      rw [w6 k v hv]
      show am_i (v : Int) = am_i (((y.sc[k]?).getD 0 : Nat) : Int)
      rw [hv]; rfl
  · exact ⟨0, x, fun _ => 0, by omega, hx, h332, e10, h331, h69, rfl, fun j hj => absurd hj (Nat.not_lt_zero _)⟩
