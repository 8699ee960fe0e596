theorem back_A {c : Nat} {C N : Mem} (hNF : NF C) (h : RK c C N) : ∃ C1 N1, fLake_become_2 C = some C1 ∧ fm_moveAll N 0 = some N1 ∧ RN c C1 N1 ∧ (∀ q, (q < 20 ∨ 68 < q) → C1.1 q = C.1 q) ∧ C1.2 = C.2 ∧ (∀ q, (q < 142 ∨ q = 147 ∨ 157 < q) → N1.1 q = N.1 q) ∧ N1.2 = N.2 := by
  obtain ⟨hS, hJ, hL, hF, hA, hP, hW, hV⟩ := h
  obtain ⟨⟨e0, b0⟩, ⟨e1, b1⟩, ⟨e2, b2⟩, ⟨e3, b3⟩, ⟨e5, b5⟩, ⟨e6, b6⟩, ⟨e7, b7⟩, ⟨e4, b4⟩, e8⟩ := id hS
  obtain ⟨l0, u0⟩ := id b0
  obtain ⟨l1, u1⟩ := id b1
  obtain ⟨l2, u2⟩ := id b2
  obtain ⟨l3, u3⟩ := id b3
  have j0 := t_ix l0
  have j1 := t_ix l1
  have j2 := t_ix l2
  obtain ⟨C1, g1, g2, g3, g4, g5, g6, g7, g8, g9, g10, g11, g12⟩ := become_2 (M := C) (m1 := ix (N.1 159 0)) (m2 := ix (N.1 159 1)) (m3 := ix (N.1 159 2)) (by rw [e0]; exact of_ix l0) (by rw [e1]; exact of_ix l1) (by rw [e2]; exact of_ix l2) (by omega) (by omega) (by omega) (fun j hj => by
    obtain ⟨-, -, -, -, ⟨z1, z2⟩⟩ := hJ j (by omega)
    rw [z1]
    exact isB_of z2)
  obtain ⟨N1, x1, x2, x3, y0, y1, y2, y3, y4, y5, y6, y7, y8, y9, y10, y11, y12, y13, y14⟩ := moveAll_0 N
  refine ⟨C1, N1, g1, x1, ?_, g2, g4, fun q hq => x2 q (by omega) (by omega) (by omega) (by omega) (by omega) (by omega) (by omega) (by omega) (by omega) (by omega) (by omega) (by omega) (by omega) (by omega) (by omega), x3⟩
  have m0 : N1.1 156 0 = N.1 159 0 := y0 0 (by omega)
  have m1 : N1.1 156 1 = N.1 159 1 := y0 1 (by omega)
  have m2 : N1.1 156 2 = N.1 159 2 := y0 2 (by omega)
  have m3 : N1.1 156 3 = N.1 159 3 := y0 3 (by omega)
  have m4 : N1.1 156 4 = N.1 159 4 := y0 4 (by omega)
  have m5 : N1.1 156 5 = N.1 159 5 := y0 5 (by omega)
  have m6 : N1.1 156 6 = N.1 159 6 := y0 6 (by omega)
  have m7 : N1.1 156 7 = N.1 159 7 := y0 7 (by omega)
  have m8 : N1.1 156 8 = N.1 159 8 := y0 8 (by omega)
  refine ⟨?_, ?_, ?_, ?_, ?_, ?_, ?_, ?_⟩
  · unfold NS
    rw [m0, m1, m2, m3, m4, m5, m6, m7, m8, g5 1 (by omega), g5 3 (by omega), g5 7 (by omega), g5 10 (by omega), g5 12 (by omega), g5 13 (by omega), g5 14 (by omega), g5 4 (by omega), g5 15 (by omega)]
    exact hS
  · intro j hj
    rw [m0] at hj
    rw [g6 j (by omega) 0 (by omega), g6 j (by omega) 1 (by omega), g6 j (by omega) 2 (by omega), g6 j (by omega) 3 (by omega), g6 j (by omega) 4 (by omega), y3 j (by omega), y4 j (by omega), y5 j (by omega), y6 j (by omega), y7 j (by omega)]
    exact hJ j hj
  · intro w hw
    rw [m1] at hw
    have e := fun i (hi : i < 9) => g7 w (by omega) i hi
    obtain ⟨z1, z2⟩ := hL w hw
    refine ⟨fun i hi => ?_, ?_⟩
    · rw [e i hi, z1 i hi]
      exact (y8 (9 * w + i) (by omega)).symm
    · unfold lawok at z2 ⊢
      simp only [e 0 (by omega), e 1 (by omega), e 2 (by omega), e 3 (by omega), e 4 (by omega), e 5 (by omega), e 6 (by omega), e 7 (by omega), e 8 (by omega)]
      exact z2
  · exact NF_fr hNF g3
  · intro a ha
    rw [m2] at ha
    rw [g8 a (by omega) 0 (by omega), g8 a (by omega) 1 (by omega), g8 a (by omega) 2 (by omega), y9 a (by omega), y10 a (by omega), y11 a (by omega)]
    exact hA a ha
  · intro q hq
    rw [m3] at hq
    rw [(g9 q (by omega)).1, (g9 q (by omega)).2, y13 q (by omega), y14 q (by omega)]
    exact hP q hq
  · intro q hq
    rw [g10 q hq, y2 q hq]
    exact hW q hq
  · have v0 : N1.1 157 0 = N.1 159 9 := y1 0 (by omega)
    have v1 : N1.1 157 1 = N.1 159 10 := y1 1 (by omega)
    have v2 : N1.1 157 2 = N.1 159 11 := y1 2 (by omega)
    have v3 : N1.1 157 3 = N.1 159 12 := y1 3 (by omega)
    have v4 : N1.1 157 4 = N.1 159 13 := y1 4 (by omega)
    have v5 : N1.1 157 5 = N.1 159 14 := y1 5 (by omega)
    have v6 : N1.1 157 6 = N.1 159 15 := y1 6 (by omega)
    have v7 : N1.1 157 7 = N.1 159 16 := y1 7 (by omega)
    have v8 : ∀ i, i < 20 → N1.1 157 (i + 8) = N.1 159 (i + 17) := fun i hi => y1 (i + 8) (by omega)
    unfold NV
    rw [v0, v1, v2, v3, v4, v5, v6, v7, m0, m2, g11 0 (by omega), g11 2 (by omega), g11 3 (by omega), g11 4 (by omega), g11 5 (by omega), g11 6 (by omega), g11 7 (by omega)]
    rcases hV with w | ⟨w0, wa, wb, wc, wd, we, wf, wg, wh, wi, wj⟩
    · exact Or.inl w
    · have wb2 := wb.2.2
      have wc2 := wc.2.2
      refine Or.inr ⟨w0, wa, wb, wc, wd, we, wf, wg, fun i hi => ?_, wi, fun i hi => ?_⟩
      · rw [g12 i (by omega), v8 i (by omega)]
        exact wh i hi
      · obtain ⟨-, k2, k3⟩ := wh i (by omega)
        have ik := t_ix k2
        rw [v8 i (by omega), y4 _ (by omega)]
        exact wj i hi
