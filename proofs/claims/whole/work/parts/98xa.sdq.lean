/-! ===== chains of readers ===== -/
theorem sI_0 {r : Nat × Nat} {X : sSt} {k : Nat → sRs} (h : r.1 = 0) : sI r X k = k r.2 := if_pos h
theorem sI_n {r : Nat × Nat} {X : sSt} {k : Nat → sRs} (h : r.1 ≠ 0) : sI r X k = (r.1, r.2, X) := if_neg h
theorem rS_0 {r : Nat × Nat} {k : Nat → Nat × Nat} (h : r.1 = 0) : rS r k = k r.2 := if_pos h
theorem rS_n {r : Nat × Nat} {k : Nat → Nat × Nat} (h : r.1 ≠ 0) : rS r k = r := if_neg h
theorem rS_1 {r : Nat × Nat} {k : Nat → Nat × Nat} (h : (rS r k).1 = 0) : r.1 = 0 := by
  by_cases q : r.1 = 0
  · exact q
  · unfold rS at h
    rw [if_neg q] at h
    exact absurd h q
section CHAIN
variable {T : Nat → Nat} {n p : Nat} {X : sSt}
theorem sdBoat_e (hfu : X.bn.length ≠ 6) {r2 r3 r4 r5 r6 r7 r8 : Nat × Nat} (h2 : r2 = aK T n (tE T n p) X) (h3 : r3 = rS r2 (fun p => aW T n p 2)) (h4 : r4 = rS r3 (fun p => aN T n p 0 X.la)) (h5 : r5 = rS r4 (fun p => aW T n p 3)) (h6 : r6 = rS r5 (fun p => aN T n p 0 99)) (h7 : r7 = rS r6 (fun p => aW T n p 4)) (h8 : r8 = rS r7 (fun p => aN T n p 0 99)) : sdBoat T n X p = (if r8.1 = 0 then (0, r8.2, (X.la, X.wd, X.sq, X.nw, X.sz, X.bn ++ [(tL T n (tE T n p), tV T n r3.2, tV T n r5.2, tV T n r7.2, [])], X.rd, X.wf, X.fo)) else (r8.1, r8.2, X)) ∧ (r8.1 = 0 → r2.1 = 0 ∧ r3.1 = 0 ∧ r4.1 = 0 ∧ r5.1 = 0 ∧ r6.1 = 0 ∧ r7.1 = 0) := by
  refine ⟨?_, fun e => ?_⟩
  · unfold sdBoat
    rw [if_neg hfu]
    rw [← h2]
    by_cases q2 : r2.1 = 0
    · rw [sI_0 q2]
      rw [rS_0 q2] at h3
      rw [← h3]
      by_cases q3 : r3.1 = 0
      · rw [sI_0 q3]
        rw [rS_0 q3] at h4
        rw [← h4]
        by_cases q4 : r4.1 = 0
        · rw [sI_0 q4]
          rw [rS_0 q4] at h5
          rw [← h5]
          by_cases q5 : r5.1 = 0
          · rw [sI_0 q5]
            rw [rS_0 q5] at h6
            rw [← h6]
            by_cases q6 : r6.1 = 0
            · rw [sI_0 q6]
              rw [rS_0 q6] at h7
              rw [← h7]
              by_cases q7 : r7.1 = 0
              · rw [sI_0 q7]
                rw [rS_0 q7] at h8
                rw [← h8]
                by_cases q8 : r8.1 = 0
                · rw [sI_0 q8]
                  rw [if_pos q8]
                · rw [sI_n q8]
                  rw [if_neg q8]
              · rw [sI_n q7]
                rw [rS_n q7] at h8
                rw [h8, if_neg q7]
            · rw [sI_n q6]
              rw [rS_n q6] at h7
              rw [h7, rS_n q6] at h8
              rw [h8, if_neg q6]
          · rw [sI_n q5]
            rw [rS_n q5] at h6
            rw [h6, rS_n q5] at h7
            rw [h7, rS_n q5] at h8
            rw [h8, if_neg q5]
        · rw [sI_n q4]
          rw [rS_n q4] at h5
          rw [h5, rS_n q4] at h6
          rw [h6, rS_n q4] at h7
          rw [h7, rS_n q4] at h8
          rw [h8, if_neg q4]
      · rw [sI_n q3]
        rw [rS_n q3] at h4
        rw [h4, rS_n q3] at h5
        rw [h5, rS_n q3] at h6
        rw [h6, rS_n q3] at h7
        rw [h7, rS_n q3] at h8
        rw [h8, if_neg q3]
    · rw [sI_n q2]
      rw [rS_n q2] at h3
      rw [h3, rS_n q2] at h4
      rw [h4, rS_n q2] at h5
      rw [h5, rS_n q2] at h6
      rw [h6, rS_n q2] at h7
      rw [h7, rS_n q2] at h8
      rw [h8, if_neg q2]
  · have q7 : r7.1 = 0 := rS_1 (k := fun p => aN T n p 0 99) (by rw [← h8]; exact e)
    have q6 : r6.1 = 0 := rS_1 (k := fun p => aW T n p 4) (by rw [← h7]; exact q7)
    have q5 : r5.1 = 0 := rS_1 (k := fun p => aN T n p 0 99) (by rw [← h6]; exact q6)
    have q4 : r4.1 = 0 := rS_1 (k := fun p => aW T n p 3) (by rw [← h5]; exact q5)
    have q3 : r3.1 = 0 := rS_1 (k := fun p => aN T n p 0 X.la) (by rw [← h4]; exact q4)
    have q2 : r2.1 = 0 := rS_1 (k := fun p => aW T n p 2) (by rw [← h3]; exact q3)
    exact ⟨q2, q3, q4, q5, q6, q7⟩
theorem sdRider_e (hfu : X.rd.length ≠ 6) {r2 r3 r4 : Nat × Nat} (h2 : r2 = aK T n (tE T n p) X) (h3 : r3 = rS r2 (fun p => aW T n p 8)) (h4 : r4 = rS r3 (fun p => aN T n p 0 7)) : sdRider T n X p = (if r4.1 = 0 then (0, r4.2, (X.la, X.wd, X.sq, X.nw, X.sz, X.bn, X.rd ++ [(tL T n (tE T n p), tV T n r3.2)], X.wf, X.fo)) else (r4.1, r4.2, X)) ∧ (r4.1 = 0 → r2.1 = 0 ∧ r3.1 = 0) := by
  refine ⟨?_, fun e => ?_⟩
  · unfold sdRider
    rw [if_neg hfu]
    rw [← h2]
    by_cases q2 : r2.1 = 0
    · rw [sI_0 q2]
      rw [rS_0 q2] at h3
      rw [← h3]
      by_cases q3 : r3.1 = 0
      · rw [sI_0 q3]
        rw [rS_0 q3] at h4
        rw [← h4]
        by_cases q4 : r4.1 = 0
        · rw [sI_0 q4]
          rw [if_pos q4]
        · rw [sI_n q4]
          rw [if_neg q4]
      · rw [sI_n q3]
        rw [rS_n q3] at h4
        rw [h4, if_neg q3]
    · rw [sI_n q2]
      rw [rS_n q2] at h3
      rw [h3, rS_n q2] at h4
      rw [h4, if_neg q2]
  · have q3 : r3.1 = 0 := rS_1 (k := fun p => aN T n p 0 7) (by rw [← h4]; exact e)
    have q2 : r2.1 = 0 := rS_1 (k := fun p => aW T n p 8) (by rw [← h3]; exact q3)
    exact ⟨q2, q3⟩
end CHAIN
