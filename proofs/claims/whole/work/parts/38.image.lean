theorem op_image {c : Nat} {C N : Mem} (h : Rel c C N) : Sim c (fc_image C) (fm_image N) := by
  obtain ⟨⟨hS, hJ, hL, hF, hA, hP, hW, hV⟩, -⟩ := id h
  obtain ⟨⟨e0, b0⟩, ⟨e1, b1⟩, ⟨e2, b2⟩, ⟨e3, b3⟩, ⟨e5, b5⟩, ⟨e6, b6⟩, ⟨e7, b7⟩, ⟨e4, b4⟩, e8⟩ := id hS
  obtain ⟨l0, u0⟩ := id b0
  obtain ⟨l1, u1⟩ := id b1
  obtain ⟨l2, u2⟩ := id b2
  obtain ⟨l3, u3⟩ := id b3
  obtain ⟨l5, u5⟩ := id b5
  obtain ⟨l6, u6⟩ := id b6
  obtain ⟨l7, u7⟩ := id b7
  obtain ⟨l4, u4⟩ := id b4
  obtain ⟨hRN, hRS, hRT, hRF, hRX, hKF, -⟩ := id h
  have j0 := t_ix l0
  have j1 := t_ix l1
  have j2 := t_ix l2
  obtain ⟨C1, g1, g2, g3, g4, g5, g6, g7, g8, g9, g10, g11, g12⟩ := become (M := C) (m1 := ix (N.1 156 0)) (m2 := ix (N.1 156 1)) (m3 := ix (N.1 156 2)) (by rw [e0]; exact of_ix l0) (by rw [e1]; exact of_ix l1) (by rw [e2]; exact of_ix l2) (by omega) (by omega) (by omega) (fun j hj => by
    obtain ⟨-, -, -, -, ⟨z1, z2⟩⟩ := hJ j (by omega)
    rw [z1]
    exact isB_of z2)
  obtain ⟨N1, x1, x2, x3, y0, y1, y2, y3, y4, y5, y6, y7, y8, y9, y10, y11, y12, y13, y14⟩ := moveAll_1 N
  refine sim_i (r := 1) (C' := wI C1 0 4 1) (N' := wI N1 138 21 1) ?_ ?_ ?_
  · unfold fc_image; rw [g1]; rfl
  · unfold fm_image; rw [x1]; rfl
  · have sC : ∀ lo hi, (∀ q, lo ≤ q → q ≤ hi → q ≠ 0 ∧ (q < 69 ∨ 117 < q)) → same lo hi C (wI C1 0 4 1) := fun lo hi z q a b => ⟨(wI_row _ _ _ _ (z q a b).1).trans (g2 q (z q a b).2), by rw [show (wI C1 0 4 1).2 = C1.2 from rfl, g4]⟩
    have sN : ∀ lo hi, (∀ q, lo ≤ q → q ≤ hi → q ≠ 138 ∧ q ≠ 159) → same lo hi N (wI N1 138 21 1) := fun lo hi z q a b => ⟨(wI_row _ _ _ _ (z q a b).1).trans (x2 q (z q a b).2), by rw [show (wI N1 138 21 1).2 = N1.2 from rfl, x3]⟩
    have rC := fun q (a : q ≠ 0) (b : q < 69 ∨ 117 < q) => (wI_row C1 0 4 1 a).trans (g2 q b)
    have rN := fun q (a : q ≠ 138) (b : q ≠ 159) => (wI_row N1 138 21 1 a).trans (x2 q b)
    have n8 : (wI N1 138 21 1).1 138 8 = N.1 138 8 := (mem_fst (by omega)).trans (congrFun (x2 138 (by omega)) 8)
    refine ⟨RN_up (RN_fr hRN (sC _ _ (fun q a b => by omega)) (sN _ _ (fun q a b => by omega)) (sN _ _ (fun q a b => by omega))) (Nat.le_succ c), RS_fr hRS (sC _ _ (fun q a b => by omega)) (sN _ _ (fun q a b => by omega)) (congrFun (rC 20 (by omega) (by omega)) 1), RT_fr hRT (congrFun (rC 18 (by omega) (by omega)) 1) (rC 19 (by omega) (by omega)) n8 (rN 147 (by omega) (by omega)), RF_fr hRF (rC 118 (by omega) (by omega)) (rN 158 (by omega) (by omega)), RX_fr hRX (rC 128 (by omega) (by omega)) (rC 134 (by omega) (by omega)), KF_fr hKF ((wI_row _ _ _ _ (by omega)).trans g3), Or.inr ⟨wI_s, wI_s, ?_⟩⟩
    have kC := fun q (a : q ≠ 0) => wI_row C1 0 4 1 a
    have kN : (wI N1 138 21 1).1 159 = N1.1 159 := wI_row _ _ _ _ (by omega)
    have m0 : N1.1 159 0 = N.1 156 0 := y0 0 (by omega)
    have m1 : N1.1 159 1 = N.1 156 1 := y0 1 (by omega)
    have m2 : N1.1 159 2 = N.1 156 2 := y0 2 (by omega)
    have m3 : N1.1 159 3 = N.1 156 3 := y0 3 (by omega)
    have m4 : N1.1 159 4 = N.1 156 4 := y0 4 (by omega)
    have m5 : N1.1 159 5 = N.1 156 5 := y0 5 (by omega)
    have m6 : N1.1 159 6 = N.1 156 6 := y0 6 (by omega)
    have m7 : N1.1 159 7 = N.1 156 7 := y0 7 (by omega)
    have m8 : N1.1 159 8 = N.1 156 8 := y0 8 (by omega)
    refine ⟨?_, ?_, ?_, ?_, ?_, ?_, ?_, ?_⟩
    · unfold KS
      rw [kC 69 (by omega), kN, m0, m1, m2, m3, m4, m5, m6, m7, m8, g5 1 (by omega), g5 3 (by omega), g5 7 (by omega), g5 10 (by omega), g5 12 (by omega), g5 13 (by omega), g5 14 (by omega), g5 4 (by omega), g5 15 (by omega)]
      exact hS
    · intro j hj
      rw [kN, m0] at hj
      rw [kC _ (by omega), kN, g6 j (by omega) 0 (by omega), g6 j (by omega) 1 (by omega), g6 j (by omega) 2 (by omega), g6 j (by omega) 3 (by omega), g6 j (by omega) 4 (by omega), y3 j (by omega), y4 j (by omega), y5 j (by omega), y6 j (by omega), y7 j (by omega)]
      exact hJ j hj
    · intro w hw
      rw [kN, m1] at hw
      have e := fun i (hi : i < 9) => g7 w (by omega) i hi
      obtain ⟨z1, z2⟩ := hL w hw
      refine ⟨fun i hi => ?_, ?_⟩
      · rw [kC _ (by omega), kN, e i hi, z1 i hi]
        exact (y8 (9 * w + i) (by omega)).symm
      · unfold lawok at z2 ⊢
        rw [kC _ (by omega)]
        simp only [e 0 (by omega), e 1 (by omega), e 2 (by omega), e 3 (by omega), e 4 (by omega), e 5 (by omega), e 6 (by omega), e 7 (by omega), e 8 (by omega)]
        exact z2
    · exact KF_fr hKF ((wI_row _ _ _ _ (by omega)).trans g3)
    · intro a ha
      rw [kN, m2] at ha
      rw [kC _ (by omega), kN, g8 a (by omega) 0 (by omega), g8 a (by omega) 1 (by omega), g8 a (by omega) 2 (by omega), y9 a (by omega), y10 a (by omega), y11 a (by omega)]
      obtain ⟨z1, z2, z3⟩ := hA a ha
      exact ⟨z1, ⟨z2.1, z2.2.1, by have := z2.2.2; omega⟩, z3⟩
    · intro q hq
      rw [kN, m3] at hq
      rw [kC _ (by omega), kC _ (by omega), kN, (g9 q (by omega)).1, (g9 q (by omega)).2, y13 q (by omega), y14 q (by omega)]
      exact hP q hq
    · intro q hq
      rw [kC _ (by omega), kN, g10 q hq, y2 q hq]
      exact hW q hq
    · have v0 : N1.1 159 9 = N.1 157 0 := y1 0 (by omega)
      have v1 : N1.1 159 10 = N.1 157 1 := y1 1 (by omega)
      have v2 : N1.1 159 11 = N.1 157 2 := y1 2 (by omega)
      have v3 : N1.1 159 12 = N.1 157 3 := y1 3 (by omega)
      have v4 : N1.1 159 13 = N.1 157 4 := y1 4 (by omega)
      have v5 : N1.1 159 14 = N.1 157 5 := y1 5 (by omega)
      have v6 : N1.1 159 15 = N.1 157 6 := y1 6 (by omega)
      have v7 : N1.1 159 16 = N.1 157 7 := y1 7 (by omega)
      have v8 : ∀ i, i < 20 → N1.1 159 (i + 17) = N.1 157 (i + 8) := fun i hi => y1 (i + 8) (by omega)
      unfold KV
      rw [kC 116 (by omega), kC 117 (by omega), kN, v0, v1, v2, v3, v4, v5, v6, v7, m0, m2, g11 0 (by omega), g11 2 (by omega), g11 3 (by omega), g11 4 (by omega), g11 5 (by omega), g11 6 (by omega), g11 7 (by omega)]
      rcases hV with w | ⟨w0, wa, wb, wc, wd, we, wf, wg, wh, wi, wj⟩
      · exact Or.inl w
      · have wb2 := wb.2.2
        have wc2 := wc.2.2
        refine Or.inr ⟨w0, wa, wb, wc, ⟨wd.1, wd.2.1, by have := wd.2.2; omega⟩, we, wf, wg, fun i hi => ?_, wi, fun i hi => ?_⟩
        · rw [g12 i (by omega), v8 i (by omega)]
          exact wh i hi
        · obtain ⟨-, k2, k3⟩ := wh i (by omega)
          have ik := t_ix k2
          rw [v8 i (by omega), y4 _ (by omega)]
          exact wj i hi
