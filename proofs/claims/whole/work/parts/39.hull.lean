/-! ===== what a call leaves behind ===== -/
abbrev DW (_Q : Option Value → am_Mem → Prop) : Type := am_R
def Wp (Q : Option Value → am_Mem → Prop) (e : DW Q) : Prop := ∃ r M, (e : am_R) = some (r, M) ∧ Q r M
theorem Wp_r {Q : Option Value → am_Mem → Prop} {r : Option Value} {M : am_Mem} (h : Q r M) : Wp Q (some (r, M) : am_R) := ⟨r, M, rfl, h⟩
theorem Wp_I {P Q : Option Value → am_Mem → Prop} {k : Int32 → am_Mem → am_R} {e : am_R} (h : Wp P e) (hk : ∀ r M, P r M → ∃ v, r = some (.int v) ∧ Wp Q (k v M)) : Wp Q (bIJ k e) := by
  obtain ⟨r, M, rfl, hP⟩ := h
  obtain ⟨v, rfl, hQ⟩ := hk r M hP
  exact hQ
theorem Wp_L {P Q : Option Value → am_Mem → Prop} {k : Int64 → am_Mem → am_R} {e : am_R} (h : Wp P e) (hk : ∀ r M, P r M → ∃ v, r = some (.long v) ∧ Wp Q (k v M)) : Wp Q (bLJ k e) := by
  obtain ⟨r, M, rfl, hP⟩ := h
  obtain ⟨v, rfl, hQ⟩ := hk r M hP
  exact hQ
theorem Wp_V {P Q : Option Value → am_Mem → Prop} {k : am_Mem → am_R} {e : am_R} (h : Wp P e) (hk : ∀ r M, P r M → r = none ∧ Wp Q (k M)) : Wp Q (bVJ k e) := by
  obtain ⟨r, M, rfl, hP⟩ := h
  obtain ⟨rfl, hQ⟩ := hk r M hP
  exact hQ
theorem Wp_m {P Q : Option Value → am_Mem → Prop} {e : am_R} (h : Wp P e) (hk : ∀ r M, P r M → Q r M) : Wp Q e := by
  obtain ⟨r, M, rfl, hP⟩ := h
  exact ⟨r, M, rfl, hk r M hP⟩
theorem Wp_e {Q : Option Value → am_Mem → Prop} {e e' : am_R} (h : e = e') (hk : Wp Q e') : Wp Q e := by
  rw [h]
  exact hk
/-! ===== one boat, bowed ===== -/
theorem ev_ok {en : Nat → Int} {e1 : Nat → Int → Int} {q sw b : Bool} (hen : ∀ w, wdOK q sw w → -1000000 ≤ en w ∧ en w ≤ 1000000) (he1 : q = true → ∀ w v, (w = 9 ∨ w = 5) → -1000000 ≤ v → v ≤ 1000000 → -1000000 ≤ e1 w v ∧ e1 w v ≤ 1000000) :
    ∀ (p : List tok) (bs : List Bool) (vs : List Int), tokOK bs p = some [b] → (∀ t ∈ p, tokW q sw t) → stT bs vs → ∃ v, ev en e1 vs p = [v] ∧ vOK b v
  | [], bs, vs, hOK, hW, hT => by
    have hbs : bs = [b] := by simpa [tokOK] using hOK
    subst hbs
    obtain ⟨v, r, rfl, h1, h2⟩ := stT_1 hT
    have hr : r = [] := by cases r with | nil => rfl | cons _ _ => exact h2.elim
    subst hr
    exact ⟨v, rfl, h1⟩
  | (k, x) :: p, bs, vs, hOK, hW, hT => by
    have hWt := hW _ List.mem_cons_self
    have hWp : ∀ t ∈ p, tokW q sw t := fun t ht => hW t (List.mem_cons_of_mem _ ht)
    simp only [tokOK] at hOK
    cases hD : tokD bs (k, x) with
    | none => rw [hD] at hOK; cases hOK
    | some bs' =>
      rw [hD] at hOK
      simp only at hOK
      split at hOK
      · rcases tokD_c hD with ⟨rfl, rfl⟩ | ⟨rfl, rfl⟩ | ⟨rfl, r, rfl, rfl⟩ | ⟨rfl, r, rfl, rfl, hs⟩ | ⟨rfl, r, rfl, rfl, hs⟩ | ⟨rfl, rfl⟩ | ⟨rfl, r, rfl, rfl⟩
        · have hx9 : x ≤ 9999 := hWt
          exact ev_ok hen he1 p _ ((x : Int) :: vs) hOK hWp ⟨⟨by omega, by omega, fun h => by cases h⟩, hT⟩
        · obtain ⟨q1, q2⟩ := hen x hWt
          exact ev_ok hen he1 p _ (en x :: vs) hOK hWp ⟨⟨q1, q2, fun h => by cases h⟩, hT⟩
        · obtain ⟨w, r', rfl, h1, h2⟩ := stT_1 hT
          have hw01 := h1.2.2 rfl
          exact ev_ok hen he1 p _ ((1 - w) :: r') hOK hWp ⟨⟨by omega, by omega, fun _ => by omega⟩, h2⟩
        · obtain ⟨w, u, r', rfl, h1, h1', h2⟩ := stT_2 hT
          exact ev_ok hen he1 p _ (op2 x u w :: r') hOK hWp ⟨op2_t hs h1' h1, h2⟩
        · obtain ⟨w, u, r', rfl, h1, h1', h2⟩ := stT_2 hT
          exact ev_ok hen he1 p _ (op2 x u w :: r') hOK hWp ⟨op2_n hWt h1' h1, h2⟩
        · exact ev_ok hen he1 p _ ((1 : Int) :: vs) hOK hWp ⟨⟨by omega, by omega, fun h => Or.inr rfl⟩, hT⟩
        · obtain ⟨w, r', rfl, h1, h2⟩ := stT_1 hT
          obtain ⟨hq, hx5⟩ := hWt
          obtain ⟨q1, q2⟩ := he1 hq x w hx5 h1.1 h1.2.1
          exact ev_ok hen he1 p _ (e1 x w :: r') hOK hWp ⟨⟨q1, q2, fun h => by cases h⟩, h2⟩
      · cases hOK
def e0 : Nat → Int → Int := fun _ _ => 0
def enS (v ti ro mi u : Nat) (wt : Int) (w : Nat) : Int := if w = 14 then v else if w = 3 then ti else if w = 4 then ro else if w = 15 then mi else if w = 12 then u else wt
theorem enS_b {v ti ro mi u : Nat} {wt : Int} (h1 : v ≤ 7) (h2 : ti ≤ 99) (h3 : ro ≤ 99) (h4 : mi ≤ 60) (h5 : u ≤ 9) (h6 : -60 ≤ wt) (h7 : wt ≤ 60) (w : Nat) : -1000000 ≤ enS v ti ro mi u wt w ∧ enS v ti ro mi u wt w ≤ 1000000 := by
  unfold enS
  repeat' split
  all_goals omega
theorem vl_ok {en : Nat → Int} {sw : Bool} {p : List tok} (h : frT false sw p) (hen : ∀ w, -1000000 ≤ en w ∧ en w ≤ 1000000) : -1000000 ≤ vl en e0 p ∧ vl en e0 p ≤ 1000000 ∧ ev en e0 [] p = [vl en e0 p] := by
  obtain ⟨⟨b, hb⟩, hW⟩ := h
  obtain ⟨v, e, hv⟩ := ev_ok (en := en) (e1 := e0) (q := false) (sw := sw) (fun w _ => hen w) (fun h => by cases h) p [] [] hb hW trivial
  have : vl en e0 p = v := by unfold vl; rw [e]; rfl
  rw [this]
  exact ⟨hv.1, hv.2.1, e⟩
/-- a number kept between two others -/
def clZ (a b v : Int) : Int := if v < a then a else if b < v then b else v
theorem clZ_b {a b v : Int} (h : a ≤ b) : a ≤ clZ a b v ∧ clZ a b v ≤ b := by
  unfold clZ
  split
  · omega
  · split <;> omega
def rcS (wf : Nat → Nat) (fm : Nat → List tok) (s : bt) (v u : Nat) : Int := if wf s.mi / 2 ^ v % 2 = 1 then 0 else clZ (-9) 9 (vl (enS v s.ti s.ro s.mi u 0) e0 (fm 0))
theorem rcS_b {wf : Nat → Nat} {fm : Nat → List tok} {s : bt} {v u : Nat} : -9 ≤ rcS wf fm s v u ∧ rcS wf fm s v u ≤ 9 := by
  unfold rcS
  split
  · omega
  · exact clZ_b (by omega)
def miS (last : Nat) (wf : Nat → Nat) (fm : Nat → List tok) (s : bt) (v u : Nat) : Nat := (clZ 0 last (s.mi + rcS wf fm s v u)).toNat
theorem miS_b {last : Nat} {wf : Nat → Nat} {fm : Nat → List tok} {s : bt} {v u : Nat} : (miS last wf fm s v u : Int) = clZ 0 last (s.mi + rcS wf fm s v u) ∧ miS last wf fm s v u ≤ last := by
  have := clZ_b (a := 0) (b := last) (v := s.mi + rcS wf fm s v u) (by omega)
  unfold miS
  omega
def vlS (last : Nat) (wf : Nat → Nat) (fm : Nat → List tok) (s : bt) (v u f : Nat) : Int := vl (enS v s.ti s.ro (miS last wf fm s v u) u ((miS last wf fm s v u : Int) - s.mi)) e0 (fm f)
def bwS (last : Nat) (wf : Nat → Nat) (fm : Nat → List tok) (s : bt) (v u : Nat) : bt :=
  (miS last wf fm s v u, (clZ 0 99 (vlS last wf fm s v u 1)).toNat, s.ro - 1, if miS last wf fm s v u ≠ last ∧ vlS last wf fm s v u 2 = 1 then 1 else s.su, s.pl, s.sc)
/-- an hour of a boat with n notes: the boat, and the note it was bowed by (8: none) -/
abbrev ouS (last n : Nat) (s : bt) : Prop := n ≠ 0 ∧ s.su = 0 ∧ s.mi ≠ last
def paS (last : Nat) (wf : Nat → Nat) (fm : Nat → List tok) (u n : Nat) (s : bt) : bt :=
  if ouS last n s then ((bwS last wf fm s (s.sc s.pl) u).mi, (bwS last wf fm s (s.sc s.pl) u).ti, (bwS last wf fm s (s.sc s.pl) u).ro, (bwS last wf fm s (s.sc s.pl) u).su, if s.pl + 1 < n then s.pl + 1 else 0, s.sc) else s
def noS (last n : Nat) (s : bt) : Nat := if ouS last n s then s.sc s.pl else 8
theorem bwS_ok {last n : Nat} {wf : Nat → Nat} {fm : Nat → List tok} {s : bt} {v u : Nat} (h : bOK last n s) (h0 : s.su = 0) : bOK last n (bwS last wf fm s v u) := by
  obtain ⟨k1, k2, k3, k4, k5, k6, k7⟩ := h
  have m := (miS_b (last := last) (wf := wf) (fm := fm) (s := s) (v := v) (u := u)).2
  have t := clZ_b (a := 0) (b := 99) (v := vlS last wf fm s v u 1) (by omega)
  refine ⟨m, ?_, ?_, ?_, k5, ?_, k7⟩
  · show (clZ 0 99 (vlS last wf fm s v u 1)).toNat ≤ 99
    omega
  · show s.ro - 1 ≤ 99
    omega
  · show (if miS last wf fm s v u ≠ last ∧ vlS last wf fm s v u 2 = 1 then 1 else s.su) ≤ 1
    split <;> omega
  · show (if miS last wf fm s v u ≠ last ∧ vlS last wf fm s v u 2 = 1 then 1 else s.su) = 1 → miS last wf fm s v u ≠ last
    split
    · next e => exact fun _ => e.1
    · omega
theorem paS_ok {last n : Nat} {wf : Nat → Nat} {fm : Nat → List tok} {s : bt} {u : Nat} (h : bOK last n s) : bOK last n (paS last wf fm u n s) := by
  unfold paS
  split
  · next o =>
    obtain ⟨k1, k2, k3, k4, k5, k6, k7⟩ := bwS_ok (wf := wf) (fm := fm) (v := s.sc s.pl) (u := u) h o.2.1
    refine ⟨k1, k2, k3, k4, ?_, k6, k7⟩
    show (if s.pl + 1 < n then s.pl + 1 else 0) < n ∨ (if s.pl + 1 < n then s.pl + 1 else 0) = 0
    split <;> omega
  · exact h
