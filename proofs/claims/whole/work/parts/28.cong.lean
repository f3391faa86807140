/-! ===== the rest looks at the cells of dW alone ===== -/
theorem dW_k {q k : Nat} (h : dW q 0 = true) (hq : q ≠ 64) : dW q k = true := by
  unfold dW at h ⊢
  have e : (q == 64) = false := by simp [hq]
  rw [e] at h ⊢
  simpa using h
theorem fixd_dW {q : Nat} (h : fixd q = true) : dW q 0 = true ∧ q ≠ 64 := by
  unfold fixd at h
  unfold dW
  simp only [Bool.or_eq_true, Bool.and_eq_true, beq_iff_eq, Nat.ble_eq] at h ⊢
  omega
theorem restW_C : wC restW := by
  intro I J R I' J' R' hI hJ hR hW
  obtain ⟨c, last, nb, nr, nw, wd, sq, K, nt, wf, fm, h1, hc, hB, hN, hF, hS, hA, hX⟩ := hW
  have hq : ∀ q, dW q 0 = true → q ≠ 64 → I' q = I q := fun q h1 h2 => funext fun k => hI q k (dW_k h1 h2)
  have hcq : ∀ j, j ≤ 9 → I' (c + j) = I (c + j) := fun j hj => by
    refine hq _ ?_ (by omega)
    unfold dW
    simp only [Bool.or_eq_true, Bool.and_eq_true, beq_iff_eq, Nat.ble_eq]
    omega
  have k0 : I' c = I c := hcq 0 (by omega)
  have k1 := hcq 1 (by omega)
  have k2 := hcq 2 (by omega)
  have k3 := hcq 3 (by omega)
  have k4 := hcq 4 (by omega)
  have k6 := hcq 6 (by omega)
  have k7 := hcq 7 (by omega)
  have k8 := hcq 8 (by omega)
  have k9 := hcq 9 (by omega)
  have e31 := hq 31 rfl (by decide)
  have e32 := hq 32 rfl (by decide)
  have e33 := hq 33 rfl (by decide)
  have e34 := hq 34 rfl (by decide)
  have e93 := hq 93 rfl (by decide)
  have e94 := hq 94 rfl (by decide)
  have e96 := hq 96 rfl (by decide)
  have e98 := hq 98 rfl (by decide)
  have e99 := hq 99 rfl (by decide)
  have e100 := hq 100 rfl (by decide)
  have e101 := hq 101 rfl (by decide)
  have e102 := hq 102 rfl (by decide)
  have e103 := hq 103 rfl (by decide)
  have e110 := hq 110 rfl (by decide)
  have f50 := hI 64 50 rfl
  have f58 := hI 64 58 rfl
  have f68 := hI 64 68 rfl
  have f69 := hI 64 69 rfl
  have j95 : J' 95 = J 95 := funext fun k => hJ 95 k rfl
  refine ⟨c, last, nb, nr, nw, wd, sq, K, nt, wf, fm, by rw [hR 3 4 rfl]; exact h1, hc, ?_, ?_, ?_, ?_, ?_, fun q hf => ?_⟩
  · unfold restB at hB ⊢
    simp only [k0, k3, k4, k6, e93, e94, e96, e98, e99, f50, f58]
    exact hB
  · simp only [k1, k2, j95]
    exact hN
  · intro hl f hf
    have h := hF hl f hf
    unfold frX frM at h ⊢
    simp only [k7, k8, k9, e100, e101, e102]
    exact h
  · rw [e31, e32, e103]; exact hS
  · unfold actsR at hA ⊢
    simp only [e32, e33, e34, e110, f68, f69]
    exact hA
  · rw [hq q (fixd_dW hf).1 (fixd_dW hf).2]; exact hX q hf
