/-! ===== tune, rosin, raise, note ===== -/
theorem st_1 {f ring g f' g' : Nat → Int32} {last nb K h : Nat} {nt : Nat → Nat} {s : Nat → bt} {b j v : Nat} {x' : bt} (h6 : nb ≤ 6) (hn : ∀ b, b < nb → nt b ≤ 6) (hb : b < nb) (hj : j < 5 + nt b) (hO : bOK last (nt b) x') (hx : ∀ (f f' : Nat → Int32) o, bX f o (nt b) (s b) → (∀ i, o ≤ i → i < o + 11 → f' i = if i = o + j then am_i v else f i) → bX f' o (nt b) x') (hr : rowE f g last nb nt h s) (hk : keptR f ring g K) (hK : K ≤ 6 * h) (e1 : ∀ i, i < 68 → f' i = if i = 11 * b + j then am_i v else f i) (e2 : ∀ i, i < 188 → g' i = if i = 1 + 11 * b + j then am_i v else g i) : stR f' ring g' last nb nt K := by
  obtain ⟨a1, a2, a3, a4⟩ := hr
  obtain ⟨k1, k2, k3⟩ := hk
  have hnb := hn b hb
  refine ⟨h, upS s b x', ⟨a1, by rw [e1 _ (by omega), if_neg (by omega)]; exact a2, by rw [e2 _ (by omega), if_neg (by omega)]; exact a3, fun i hi => ?_⟩, ⟨by rw [e1 _ (by omega), if_neg (by omega)]; exact k1, by rw [e2 _ (by omega), if_neg (by omega)]; exact k2, fun k hk => ?_⟩, hK⟩
  · obtain ⟨o, x, y⟩ := a4 i hi
    have hni := hn i hi
    by_cases e : i = b
    · subst e
      rw [upS_e]
      exact ⟨hO, hx _ _ _ x (fun k q1 q2 => e1 k (by omega)), hx _ _ _ y (fun k q1 q2 => e2 k (by omega))⟩
    · rw [upS_o e]
      obtain ⟨x0, x1, x2, x3, x4, x5⟩ := x
      obtain ⟨y0, y1, y2, y3, y4, y5⟩ := y
      exact ⟨o, ⟨by rw [e1 _ (by omega), if_neg (by omega)]; exact x0, by rw [e1 _ (by omega), if_neg (by omega)]; exact x1, by rw [e1 _ (by omega), if_neg (by omega)]; exact x2, by rw [e1 _ (by omega), if_neg (by omega)]; exact x3, by rw [e1 _ (by omega), if_neg (by omega)]; exact x4, fun k hk => by rw [e1 _ (by omega), if_neg (by omega)]; exact x5 k hk⟩, ⟨by rw [e2 _ (by omega), if_neg (by omega)]; exact y0, by rw [e2 _ (by omega), if_neg (by omega)]; exact y1, by rw [e2 _ (by omega), if_neg (by omega)]; exact y2, by rw [e2 _ (by omega), if_neg (by omega)]; exact y3, by rw [e2 _ (by omega), if_neg (by omega)]; exact y4, fun k hk => by rw [e2 _ (by omega), if_neg (by omega)]; exact y5 k hk⟩⟩
  · obtain ⟨h', b', w', q1, q2, q3, q4, q5, q6, q7⟩ := k3 k hk
    exact ⟨h', b', w', q1, q2, q3, q4, by rw [e2 _ (by omega), if_neg (by omega)]; exact q5, by rw [e2 _ (by omega), if_neg (by omega)]; exact q6, by rw [e2 _ (by omega), if_neg (by omega)]; exact q7⟩
/-- both have kept what was, and have changed one number of a boat -/
theorem act_1 {L : Nat} {xs : Nat → Int32} {I I1 I2 : tI} {J : tJ} {R : tR} {c last nb nr nw wd sq K h : Nat} {nt wf : Nat → Nat} {fm : Nat → List tok} {s : Nat → bt} {b j v n x : Nat} {Kf : Nat → Nat} {x' : bt} (hV : vV restW L xs I J R) (h4 : R 3 4 = c) (hc : c = 10 ∨ c = 20) (hB : restB I c last nb nr nw wd sq nt wf) (hN : (∀ b, b < nb → nameR (I (c + 1) b) (J 95 (16 + b))) ∧ ∀ r, r < nr → nameR (I (c + 2) r) (J 95 (24 + r))) (hF : last ≠ 0 → ∀ f, f < 3 → frX I c f (fm f) ∧ frM I f (fm f) ∧ frT false (f == 2) (fm f)) (hX : ∀ q, fixd q = true → I q = am_K0 q)
    (h6 : nb ≤ 6) (hnt : ∀ b, b < nb → nt b ≤ 6) (hb : b < nb) (hj : j < 5 + nt b) (hO : bOK last (nt b) x') (hx : ∀ (f f' : Nat → Int32) o, bX f o (nt b) (s b) → (∀ i, o ≤ i → i < o + 11 → f' i = if i = o + j then am_i v else f i) → bX f' o (nt b) x') (hr : rowE (I 31) (I 103) last nb nt h s) (hk : keptR (I 31) (I 32) (I 103) K) (hK : K ≤ 6 * h)
    (hn : n ≤ 20) (h20 : x < 20) (hK0 : Kf 0 = K) (hst : ∀ j, j < n → Kf (j + 1) ≤ Kf j ∧ Kf j ≤ Kf (j + 1) + 6 ∧ stR (fun i => I 34 (68 * ((x + 19 - j) % 20) + i)) (I 32) (fun i => I 110 (188 * ((x + 20 - j) % 20) + i)) last nb nt (Kf (j + 1)))
    (a1 : I1 33 1 = am_i ((x + 1) % 20 : Nat)) (a2 : I1 33 2 = am_i (min 20 (n + 1) : Nat)) (a3 : ∀ i, i < 68 → I1 34 (68 * x + i) = I 31 i) (a4 : ∀ k, ¬ (68 * x ≤ k ∧ k < 68 * x + 68) → I1 34 k = I 34 k) (a5 : ∀ q k, q ≠ 34 → q ≠ 33 → I1 q k = I q k)
    (c1 : I2 64 69 = am_i ((x + 1) % 20 : Nat)) (c2 : I2 64 68 = am_i (min 20 (n + 1) : Nat)) (c3 : ∀ k, k < 188 → I2 110 (188 * ((x + 1) % 20) + k) = am_up I1 31 (11 * b + j) (am_i v) 103 k) (c4 : ∀ k, ¬ (188 * ((x + 1) % 20) ≤ k ∧ k < 188 * ((x + 1) % 20) + 188) → I2 110 k = am_up I1 31 (11 * b + j) (am_i v) 110 k) (c5 : ∀ q k, q ≠ 110 → ¬ (q = 64 ∧ (k = 68 ∨ k = 69)) → I2 q k = am_up I1 31 (11 * b + j) (am_i v) q k) : vV restW L xs (am_up I2 103 (1 + 11 * b + j) (am_i v)) J R := by
  have hnb := hnt b hb
  have z : ∀ q k, ¬ (q = 103 ∧ k = 1 + 11 * b + j) → ¬ (q = 31 ∧ k = 11 * b + j) → q ≠ 110 → ¬ (q = 64 ∧ (k = 68 ∨ k = 69)) → q ≠ 34 → q ≠ 33 → am_up I2 103 (1 + 11 * b + j) (am_i v) q k = I q k := fun q k e1 e2 e3 e4 e5 e6 => by
    rw [am_up_o e1, c5 q k e3 e4, am_up_o e2, a5 q k e5 e6]
  have mu : vMut R := hV.1.2.2.2.2
  have hI : ∀ q k, ¬ sC q k → ¬ kC q k → am_up I2 103 (1 + 11 * b + j) (am_i v) q k = I q k := fun q k e1 e2 => by
    unfold kC at e2
    exact z q k (by omega) (by omega) (by omega) (by omega) (by omega) (by omega)
  have e32 : am_up I2 103 (1 + 11 * b + j) (am_i v) 32 = I 32 := funext fun k => z 32 k (by omega) (by omega) (by omega) (by omega) (by omega) (by omega)
  refine vV_k hV hI (fun _ _ _ _ => rfl) (rR_r mu) (restW_K (K := K) h4 hc hB hN hF hX hI (fun _ _ _ _ => rfl) (rR_r mu) ?_ ?_)
  · rw [e32]
    refine st_1 h6 hnt hb hj hO hx hr hk hK (fun i hi => ?_) (fun i hi => ?_)
    · by_cases e : i = 11 * b + j
      · rw [if_pos e, e, am_up_o (by omega), c5 _ _ (by omega) (by omega), am_up_e]
      · rw [if_neg e]
        exact z 31 i (by omega) (by omega) (by omega) (by omega) (by omega) (by omega)
    · by_cases e : i = 1 + 11 * b + j
      · rw [if_pos e, e, am_up_e]
      · rw [if_neg e]
        exact z 103 i (by omega) (by omega) (by omega) (by omega) (by omega) (by omega)
  · refine acts_k (K := K) (n := n) (x := x) (Kf := Kf) (I := I) h6 hnt hn h20 hK0 hst ⟨h, s, hr, hk, hK⟩ ?_ ?_ ?_ ?_ (fun i hi => ?_) (fun k hk => ?_) (fun k hk => ?_) (fun k hk => ?_) (Nat.le_refl _) (by omega) (fun f g k _ _ hs => by rw [e32]; exact hs)
    · rw [am_up_o (by omega), c5 _ _ (by omega) (by omega), am_up_o (by omega)]; exact a1
    · rw [am_up_o (by omega)]; exact c1
    · rw [am_up_o (by omega), c5 _ _ (by omega) (by omega), am_up_o (by omega)]; exact a2
    · rw [am_up_o (by omega)]; exact c2
    · rw [am_up_o (by omega), c5 _ _ (by omega) (by omega), am_up_o (by omega)]; exact a3 i hi
    · rw [am_up_o (by omega), c5 _ _ (by omega) (by omega), am_up_o (by omega)]; exact a4 k hk
    · rw [am_up_o (by omega), c3 k hk, am_up_o (by omega)]; exact a5 _ _ (by omega) (by omega)
    · rw [am_up_o (by omega), c4 k hk, am_up_o (by omega)]; exact a5 _ _ (by omega) (by omega)
