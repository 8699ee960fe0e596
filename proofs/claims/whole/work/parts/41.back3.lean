theorem op_back {c : Nat} {C N : Mem} (h : Rel c C N) : Sim c (fc_back C) (fm_back N) := by
  obtain ⟨hRN, hRS, hRT, hRF, hRX, hKF, hI⟩ := id h
  have hj := nsc h
  unfold fc_back fm_back
  rcases hI with ⟨i1, i2⟩ | ⟨i1, i2, hK⟩
  · rw [if_pos i1, if_pos i2, bind_eta, bind_eta]
    exact sim_5 h rfl rfl
  · rw [if_neg (by rw [i1]; decide), if_neg (by rw [i2]; decide)]
    obtain ⟨C1, N1, p1, p2, p3, p4, p5, p6, p7⟩ := back_A hRN.2.2.2.1 hK
    rw [p1, p2]
    simp only [Option.bind_some]
    obtain ⟨C', N', r1, r2, r3, r4, r5, r6, r7⟩ := back_L 8 0 (by omega) C1 N1 (fun s a b => by
      have z := hRS s b
      unfold RS1 at z
      unfold RS1w
      rw [p4 (s + 2) (by omega), p5, p6 139 (by omega), p6 140 (by omega), p7]
      rcases z with z | z | ⟨z1, z2, z3, z4, z5⟩
      · exact Or.inl z
      · exact Or.inr (Or.inl z)
      · exact Or.inr (Or.inr ⟨z1, z2, z3, z4, by omega⟩)) (fun s hs => by omega) p3.1.1.1 p3.1.1.2 FU FU (by rw [FU_eq]; omega) (by rw [FU_eq]; omega)
    refine sim_i r1 r2 ?_
    have cC := fun q (a : q < 2 ∨ (9 < q ∧ q < 20) ∨ 68 < q) => (r4 q (by omega)).trans (p4 q (by omega))
    have cN := fun q (a : q ≠ 139) (b : q < 142 ∨ q = 147 ∨ 157 < q) => (r6 q a).trans (p6 q b)
    have sC : ∀ lo hi, (∀ q, lo ≤ q → q ≤ hi → 68 < q) → same lo hi C C' := fun lo hi z q a b => ⟨cC q (Or.inr (Or.inr (z q a b))), by rw [r5, p5]⟩
    refine ⟨RN_up (RN_fr p3 (fun q a b => ⟨r4 q (by omega), by rw [r5]⟩) (fun q a b => ⟨r6 q (by omega), by rw [r7]⟩) (fun q a b => ⟨r6 q (by omega), by rw [r7]⟩)) (Nat.le_succ c), r3, RT_fr hRT (congrFun (cC 18 (by omega)) 1) (cC 19 (by omega)) (congrFun (cN 138 (by omega) (by omega)) 8) (cN 147 (by omega) (by omega)), RF_fr hRF (cC 118 (by omega)) (cN 158 (by omega) (by omega)), RX_fr hRX (cC 128 (by omega)) (cC 134 (by omega)), KF_fr hKF (cC 105 (by omega)), RI_up (RI_fr (Or.inr ⟨i1, i2, hK⟩) (congrFun (cC 0 (by omega)) 4) (congrFun (cN 138 (by omega) (by omega)) 21) (sC _ _ (fun q a b => by omega)) (cN 159 (by omega) (by omega))) (Nat.le_succ c)⟩
