/-! ===== the class reads formulas ===== -/
section XM
variable {J : tJ} {R : tR} {T : Nat → Nat} {n so : Nat}
def mdLs (md i : Nat) : am_Ls := if mdR md = true then [(0, .ref 8), (1, .int (am_i i))] else [(0, .ref 8)]
/-- what a mode does, for one fuel -/
def xGs (J : tJ) (R : tR) (T : Nat → Nat) (n so f : Nat) : Prop := ∀ (md o p e sz ac i : Nat) (I : tI), md ≤ 9 → o ≤ 6 → p ≤ n → 10 * (n - p) + (if mdR md = true then 0 else md) + 1 ≤ f → 10 * (6 - o) + mdQ md ≤ e → txX T n I R → scX T n p I → fS so o sz ac I → sz ≤ p → ac ≤ 1 → i ≤ p → ∃ I', am_E e (mdM md) (if mdR md = true then 6 else 0) (mdLs md i) [] (I, J, R, 138) = some (none, (I', J, R, 138)) ∧ xP T n o sz ac (pG T n so f md o p) I I'
theorem pG_e {f md o p : Nat} (h1 : md ≤ 9) (h2 : o ≤ 6) (h3 : p ≤ n) (h4 : 10 * (n - p) + (if mdR md = true then 0 else md) + 1 ≤ f) : (pG T n so f md o p).1 < 9 ∧ ((pG T n so f md o p).1 = 0 → p + (if mdR md = true then 0 else 1) ≤ (pG T n so f md o p).2.1 ∧ (pG T n so f md o p).2.1 ≤ n ∧ (pG T n so f md o p).2.2.length + p ≤ (pG T n so f md o p).2.1) := by
  obtain ⟨a, b, -⟩ := pG_ok (T := T) (so := so) f md o p h1 h2 h3 h4
  exact ⟨a, fun e => by obtain ⟨c1, c2, c3, -⟩ := b e; exact ⟨c1, c2, by omega⟩⟩
theorem enX3 {c : Nat} : (30000 : Int) + (c : Int) = encX (3, c) := rfl
/-- a rest behind what was read, in a loop: the token, the next piece, the sign's code, on -/
theorem x_rest {f md m2 o p e sz ac i c : Nat} {I I1 I2 I3 : tI} (hx : st_Rx R) (ih : xGs J R T n so f) (hmd : (md = 2 ∧ m2 = 0) ∨ (md = 4 ∧ m2 = 1) ∨ (md = 7 ∧ m2 = 5) ∨ (md = 9 ∧ m2 = 6)) (ho : o ≤ 6) (hp : p ≤ n) (hn : n ≤ 1600) (hf : 10 * (n - p) + 0 + 1 ≤ f + 1) (he : 10 * (6 - o) + mdQ md ≤ e) (hT : txX T n I R) (hF : fS so o sz ac I) (hsz : sz ≤ p) (hac : ac ≤ 1) (hi : i ≤ p) (hpt : p < tE T n p) (hpn : tE T n p ≤ n)
    (h11 : I1 5 11 = I 5 11) (h5 : ∀ q j, q ≠ 5 → I1 q j = I q j) (hx2 : xP T n o sz ac (pG T n so f m2 o (tE T n p)) I1 I2) (hx3 : xP T n o sz ac (pB (pG T n so f m2 o (tE T n p)) (fun p1 => pT p1 [(3, c)])) I1 I3) : ∃ I', am_E e (mdM md) 6 [(0, .ref 8), (1, .int (am_i (i + 1 : Nat)))] [] (I3, J, R, 138) = some (none, (I', J, R, 138)) ∧ xP T n o sz ac (pB (pG T n so f m2 o (tE T n p)) (fun p1 => pB (pT p1 [(3, c)]) (fun p2 => pG T n so f md o p2))) I I' := by
  have m2b : m2 ≤ 9 ∧ mdR m2 = false ∧ m2 ≤ 6 := by rcases hmd with ⟨-, rfl⟩ | ⟨-, rfl⟩ | ⟨-, rfl⟩ | ⟨-, rfl⟩ <;> decide
  have mdr : mdR md = true ∧ md ≤ 9 := by rcases hmd with ⟨rfl, -⟩ | ⟨rfl, -⟩ | ⟨rfl, -⟩ | ⟨rfl, -⟩ <;> decide
  have hf1 : frF I I1 := frF_5 h5
  have gs := pG_e (T := T) (so := so) (f := f) (md := m2) (o := o) (p := tE T n p) m2b.1 ho hpn (by rw [m2b.2.1, if_neg (by decide)]; omega)
  have h3s : xP T n o sz ac (pB (pG T n so f m2 o (tE T n p)) (fun p1 => pT p1 [(3, c)])) I I3 := xP_s h11 (fun k => h5 _ _ (by omega)) hf1 hx3
  by_cases q : (pG T n so f m2 o (tE T n p)).1 = 0
  · obtain ⟨g1, g2, g3⟩ := gs.2 q
    rw [m2b.2.1, if_neg (by decide)] at g1
    have e3 : pB (pG T n so f m2 o (tE T n p)) (fun p1 => pT p1 [(3, c)]) = (0, (pG T n so f m2 o (tE T n p)).2.1, (pG T n so f m2 o (tE T n p)).2.2 ++ [(3, c)]) := pB_0 q
    rw [e3] at h3s
    obtain ⟨c1, c2, c3, c4, c5, c6, c7⟩ := h3s.1 rfl
    have len : ((pG T n so f m2 o (tE T n p)).2.2 ++ [(3, c)]).length = (pG T n so f m2 o (tE T n p)).2.2.length + 1 := by rw [List.length_append]; rfl
    obtain ⟨I4, a1, a2⟩ := ih md o (pG T n so f m2 o (tE T n p)).2.1 e (sz + ((pG T n so f m2 o (tE T n p)).2.2 ++ [(3, c)]).length) (acS ac ((pG T n so f m2 o (tE T n p)).2.2 ++ [(3, c)])) (i + 1) I3 mdr.2 ho g2 (by rw [mdr.1, if_pos rfl]; omega) he (txX_f hT h3s.2.2) c1 (xP_f hF h3s rfl) (by rw [len]; omega) acS_b (by omega)
    rw [mdr.1, if_pos rfl] at a1
    unfold mdLs at a1
    rw [mdr.1, if_pos rfl] at a1
    refine ⟨I4, a1, ?_⟩
    rw [← pB_as, e3]
    exact xP_t (r := (0, (pG T n so f m2 o (tE T n p)).2.1, (pG T n so f m2 o (tE T n p)).2.2 ++ [(3, c)])) rfl h3s a2
  · rw [pB_n q] at h3s ⊢
    obtain ⟨e1, he1⟩ : ∃ k, e = k + 2 := ⟨e - 2, by have : 9 ≤ mdQ md := by rcases hmd with ⟨rfl, -⟩ | ⟨rfl, -⟩ | ⟨rfl, -⟩ | ⟨rfl, -⟩ <;> decide
                                                    omega⟩
    subst he1
    have ff := x_p6F (d := e1) (J := J) (R := R) hx (h3s.2.1 q).1 (i := i + 1) (by omega)
    refine ⟨I3, ?_, h3s⟩
    rcases hmd with ⟨rfl, -⟩ | ⟨rfl, -⟩ | ⟨rfl, -⟩ | ⟨rfl, -⟩
    · exact ff.1
    · exact ff.2.1
    · exact ff.2.2.1
    · exact ff.2.2.2
end XM
