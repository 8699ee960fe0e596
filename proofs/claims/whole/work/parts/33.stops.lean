theorem o11 {x : Int32} (h1 : 0 ≤ x.toInt) (h2 : x.toInt < 11) : x = 0 ∨ x = 1 ∨ x = 2 ∨ x = 3 ∨ x = 4 ∨ x = 5 ∨ x = 6 ∨ x = 7 ∨ x = 8 ∨ x = 9 ∨ x = 10 := by
  rcases (show x.toInt = 0 ∨ x.toInt = 1 ∨ x.toInt = 2 ∨ x.toInt = 3 ∨ x.toInt = 4 ∨ x.toInt = 5 ∨ x.toInt = 6 ∨ x.toInt = 7 ∨ x.toInt = 8 ∨ x.toInt = 9 ∨ x.toInt = 10 by omega) with q | q | q | q | q | q | q | q | q | q | q
  · exact Or.inl (t_eq.mpr q)
  · exact Or.inr (Or.inl (t_eq.mpr q))
  · exact Or.inr (Or.inr (Or.inl (t_eq.mpr q)))
  · exact Or.inr (Or.inr (Or.inr (Or.inl (t_eq.mpr q))))
  · exact Or.inr (Or.inr (Or.inr (Or.inr (Or.inl (t_eq.mpr q)))))
  · exact Or.inr (Or.inr (Or.inr (Or.inr (Or.inr (Or.inl (t_eq.mpr q))))))
  · exact Or.inr (Or.inr (Or.inr (Or.inr (Or.inr (Or.inr (Or.inl (t_eq.mpr q)))))))
  · exact Or.inr (Or.inr (Or.inr (Or.inr (Or.inr (Or.inr (Or.inr (Or.inl (t_eq.mpr q))))))))
  · exact Or.inr (Or.inr (Or.inr (Or.inr (Or.inr (Or.inr (Or.inr (Or.inr (Or.inl (t_eq.mpr q)))))))))
  · exact Or.inr (Or.inr (Or.inr (Or.inr (Or.inr (Or.inr (Or.inr (Or.inr (Or.inr (Or.inl (t_eq.mpr q))))))))))
  · exact Or.inr (Or.inr (Or.inr (Or.inr (Or.inr (Or.inr (Or.inr (Or.inr (Or.inr (Or.inr (t_eq.mpr q))))))))))
theorem and1 (x : Int32) : x &&& 1 = 0 ∨ x &&& 1 = 1 := by
  have h1 : (x &&& 1).toBitVec.toNat ≤ 1 := by
    rw [Int32.toBitVec_and, BitVec.toNat_and]
    exact Nat.and_le_right
  have h2 : (x &&& 1).toInt = ((x &&& 1).toBitVec.toNat : Int) := by
    show (x &&& 1).toBitVec.toInt = _
    exact BitVec.toInt_eq_toNat_of_lt (by omega)
  rcases (show (x &&& 1).toInt = 0 ∨ (x &&& 1).toInt = 1 by omega) with q | q
  · exact Or.inl (t_eq.mpr q)
  · exact Or.inr (t_eq.mpr q)
theorem stop_i {c : Nat} {C N : Mem} (h : Rel c C N) {p : Nat} (hp : (N.1 156 3).toInt = p) {b x a2 a3 : Int32} (hb : bd b 0 600) {K : Int32 → Int32 → Option Int32} {K' : Int32 → Int32 → Option (Int32 × Mem)} : ∀ (n k : Nat) (w y z : Int32), k + n = p → y.toInt = b.toInt - z.toInt → bd z 0 (60 * k) → bd w 0 (99 * k) → ∀ F1 F2, n < F1 → n < F2 → ∃ w' y' z', fLake_worthWithin_L8 C x K F1 w y (nI k) = K w' y' ∧ fm_stops_L47 N b a2 a3 x K' F2 z w (nI k) = K' z' w' ∧ y'.toInt = b.toInt - z'.toInt ∧ 0 ≤ w'.toInt := by
  obtain ⟨⟨hS, hJ, hL, hF, hA, hP, hW, hV⟩, -⟩ := id h
  obtain ⟨⟨e0, b0⟩, ⟨e1, b1⟩, ⟨e2, b2⟩, ⟨e3, b3⟩, ⟨e5, b5⟩, ⟨e6, b6⟩, ⟨e7, b7⟩, ⟨e4, b4⟩, e8⟩ := id hS
  obtain ⟨l0, u0⟩ := id b0
  obtain ⟨l1, u1⟩ := id b1
  obtain ⟨l2, u2⟩ := id b2
  obtain ⟨l3, u3⟩ := id b3
  obtain ⟨l5, u5⟩ := id b5
  obtain ⟨l6, u6⟩ := id b6
  obtain ⟨l7, u7⟩ := id b7
  obtain ⟨l4, u4⟩ := id b4
  intro n
  induction n with
  | zero =>
    intro k w y z hk hy hz hw F1 F2 h1 h2
    obtain ⟨F1, rfl⟩ : ∃ m, F1 = m + 1 := ⟨F1 - 1, by omega⟩
    obtain ⟨F2, rfl⟩ : ∃ m, F2 = m + 1 := ⟨F2 - 1, by omega⟩
    have tk := t_nI (show k < 2147483648 by omega)
    rw [fLake_worthWithin_L8, fm_stops_L47, if_pos (show C.1 20 10 ≤ nI k by rw [e3, t_le, tk]; omega), if_pos (show N.1 156 (ix 3) ≤ nI k by rw [ix_3, t_le, tk]; omega)]
    exact ⟨w, y, z, rfl, rfl, hy, hw.1⟩
  | succ n ih =>
    intro k w y z hk hy hz hw F1 F2 h1 h2
    obtain ⟨F1, rfl⟩ : ∃ m, F1 = m + 1 := ⟨F1 - 1, by omega⟩
    obtain ⟨F2, rfl⟩ : ∃ m, F2 = m + 1 := ⟨F2 - 1, by omega⟩
    have tk := t_nI (show k < 2147483648 by omega)
    have xk := ix_nI (show k < 2147483648 by omega)
    have hin : inb (nI k) 10 := b_in (by omega) (by omega)
    obtain ⟨⟨m1, m2⟩, ⟨w1, w2⟩⟩ := hP k (by omega)
    rw [fLake_worthWithin_L8, fm_stops_L47, if_neg (show ¬ C.1 20 10 ≤ nI k by rw [e3, t_le, tk]; omega), if_neg (show ¬ N.1 156 (ix 3) ≤ nI k by rw [ix_3, t_le, tk]; omega)]
    simp only [jlet_e, ilet_e, gd_t hin, xk, nI_1, m1, w1]
    rcases and1 (x >>> (nI k &&& 31)) with q | q
    · rw [q, if_neg (by decide), if_pos rfl]
      exact ih (k + 1) w y z (by omega) hy ⟨hz.1, by have := hz.2; omega⟩ ⟨hw.1, by have := hw.2; omega⟩ F1 F2 (by omega) (by omega)
    · rw [q, if_pos rfl, if_neg (by decide)]
      obtain ⟨m21, m22⟩ := m2
      obtain ⟨w21, w22⟩ := w2
      obtain ⟨hz1, hz2⟩ := hz
      obtain ⟨hw1, hw2⟩ := hw
      obtain ⟨hb1, hb2⟩ := hb
      have s1 : (z + N.1 153 k).toInt = z.toInt + (N.1 153 k).toInt := by rw [t_add] <;> omega
      have s2 : (w + N.1 154 k).toInt = w.toInt + (N.1 154 k).toInt := by rw [t_add] <;> omega
      have s3 : (y - N.1 153 k).toInt = y.toInt - (N.1 153 k).toInt := by rw [t_sub] <;> omega
      exact ih (k + 1) _ _ _ (by omega) (by rw [s1, s3]; omega) ⟨by rw [s1]; omega, by rw [s1]; omega⟩ ⟨by rw [s2]; omega, by rw [s2]; omega⟩ F1 F2 (by omega) (by omega)
theorem lim_b {p : Int32} (h1 : 0 ≤ p.toInt) (h2 : p.toInt < 11) : ((1 : Int32) <<< (p &&& 31)).toInt ≤ 1024 := by
  rcases o11 h1 h2 with rfl | rfl | rfl | rfl | rfl | rfl | rfl | rfl | rfl | rfl | rfl <;> decide
theorem stop_L {c : Nat} {C N : Mem} (h : Rel c C N) {b l : Int32} (hb : bd b 0 600) (hl : (1 : Int32) <<< (N.1 156 3 &&& 31) = l) : ∀ (n k : Nat) (x2 x3 : Int32), l.toInt ≤ k + n → k + n < 5000 → 0 ≤ x3.toInt → ∀ F1 F2, n < F1 → n < F2 → ∃ r, fc_stops_L36 C b l F1 x2 x3 (nI k) = some (r, C) ∧ fm_stops_L25 N b F2 x2 x3 (nI k) = some (r, N) := by
  obtain ⟨⟨hS, hJ, hL, hF, hA, hP, hW, hV⟩, -⟩ := id h
  obtain ⟨⟨e0, b0⟩, ⟨e1, b1⟩, ⟨e2, b2⟩, ⟨e3, b3⟩, ⟨e5, b5⟩, ⟨e6, b6⟩, ⟨e7, b7⟩, ⟨e4, b4⟩, e8⟩ := id hS
  obtain ⟨l0, u0⟩ := id b0
  obtain ⟨l1, u1⟩ := id b1
  obtain ⟨l2, u2⟩ := id b2
  obtain ⟨l3, u3⟩ := id b3
  obtain ⟨l5, u5⟩ := id b5
  obtain ⟨l6, u6⟩ := id b6
  obtain ⟨l7, u7⟩ := id b7
  obtain ⟨l4, u4⟩ := id b4
  obtain ⟨p, hp⟩ : ∃ p : Nat, (N.1 156 3).toInt = p := ⟨ix (N.1 156 3), (t_ix l3).symm⟩
  intro n
  induction n with
  | zero =>
    intro k x2 x3 hk hk2 hx F1 F2 h1 h2
    obtain ⟨F1, rfl⟩ : ∃ m, F1 = m + 1 := ⟨F1 - 1, by omega⟩
    obtain ⟨F2, rfl⟩ : ∃ m, F2 = m + 1 := ⟨F2 - 1, by omega⟩
    have tk := t_nI (show k < 2147483648 by omega)
    rw [fc_stops_L36, fm_stops_L25, ix_3, hl, if_pos (show l ≤ nI k by rw [t_le, tk]; omega), if_pos (show l ≤ nI k by rw [t_le, tk]; omega)]
    exact ⟨_, rfl, rfl⟩
  | succ n ih =>
    intro k x2 x3 hk hk2 hx F1 F2 h1 h2
    obtain ⟨F1, rfl⟩ : ∃ m, F1 = m + 1 := ⟨F1 - 1, by omega⟩
    obtain ⟨F2, rfl⟩ : ∃ m, F2 = m + 1 := ⟨F2 - 1, by omega⟩
    have tk := t_nI (show k < 2147483648 by omega)
    rw [fc_stops_L36, fm_stops_L25, ix_3, hl]
    by_cases q : l ≤ nI k
    · rw [if_pos q, if_pos q]
      exact ⟨_, rfl, rfl⟩
    · rw [if_neg q, if_neg q]
      obtain ⟨w, y, z, r1, r2, r3, r4⟩ := stop_i h hp (b := b) (x := nI k) (a2 := x2) (a3 := x3) hb (K := fun w5 w6 => (if 0 ≤ w6 then (some w5) else (some (-1)))) (K' := fun w9 w10 => (if b < w9 then fm_stops_L25 N b F2 x2 x3 (nI (k + 1)) else (if w10 ≤ x3 then fm_stops_L25 N b F2 x2 x3 (nI (k + 1)) else fm_stops_L25 N b F2 (nI k) w10 (nI (k + 1))))) p 0 0 b 0 (by omega) (by simp only [Int32.reduceToInt]; omega) ⟨by decide, by decide⟩ ⟨by decide, by decide⟩ FU FU (by rw [FU_eq]; omega) (by rw [FU_eq]; omega)
      simp only [jlet_e, nI_1]
      rw [show fLake_worthWithin C (nI k) b = _ from r1, show fm_stops_L47 N b x2 x3 (nI k) (fun w9 w10 => (if b < w9 then fm_stops_L25 N b F2 x2 x3 (nI (k + 1)) else (if w10 ≤ x3 then fm_stops_L25 N b F2 x2 x3 (nI (k + 1)) else fm_stops_L25 N b F2 (nI k) w10 (nI (k + 1))))) FU 0 0 0 = _ from r2]
      by_cases g : b < z
      · rw [if_pos g]
        rw [t_lt] at g
        rw [if_neg (show ¬ (0 : Int32) ≤ y by rw [t_le]; simp only [Int32.reduceToInt]; omega)]
        simp only [Option.bind_some]
        rw [if_pos (show (-1 : Int32) ≤ x3 by rw [t_le]; simp only [Int32.reduceToInt]; omega)]
        exact ih (k + 1) x2 x3 (by omega) (by omega) hx F1 F2 (by omega) (by omega)
      · rw [if_neg g]
        rw [t_lt] at g
        rw [if_pos (show (0 : Int32) ≤ y by rw [t_le]; simp only [Int32.reduceToInt]; omega)]
        simp only [Option.bind_some]
        by_cases g2 : w ≤ x3
        · rw [if_pos g2, if_pos g2]
          exact ih (k + 1) x2 x3 (by omega) (by omega) hx F1 F2 (by omega) (by omega)
        · rw [if_neg g2, if_neg g2]
          exact ih (k + 1) _ _ (by omega) (by omega) r4 F1 F2 (by omega) (by omega)
theorem op_stops {c : Nat} {C N : Mem} (h : Rel c C N) (a1 : Int32) : Sim c (fc_stops C a1) (fm_stops N a1) := by
  obtain ⟨⟨hS, hJ, hL, hF, hA, hP, hW, hV⟩, -⟩ := id h
  obtain ⟨⟨e0, b0⟩, ⟨e1, b1⟩, ⟨e2, b2⟩, ⟨e3, b3⟩, ⟨e5, b5⟩, ⟨e6, b6⟩, ⟨e7, b7⟩, ⟨e4, b4⟩, e8⟩ := id hS
  obtain ⟨l0, u0⟩ := id b0
  obtain ⟨l1, u1⟩ := id b1
  obtain ⟨l2, u2⟩ := id b2
  obtain ⟨l3, u3⟩ := id b3
  obtain ⟨l5, u5⟩ := id b5
  obtain ⟨l6, u6⟩ := id b6
  obtain ⟨l7, u7⟩ := id b7
  obtain ⟨l4, u4⟩ := id b4
  unfold fc_stops fm_stops
  by_cases hb : a1.toInt < 0 ∨ 600 < a1.toInt
  · refine sim_2 h ?_ ?_
    · rw [if_pos (by rw [within_0]; simp only [Int32.reduceToInt]; omega), bind_eta]
    · simp only [t_lt, t_le, Int32.reduceToInt, bind_eta]
      repeat' split
      all_goals first | rfl | (exfalso; omega)
  · rw [if_neg (show ¬ fc_isWithinT C a1 0 600 = 0 by rw [within_0]; simp only [Int32.reduceToInt]; omega), if_neg (show ¬ a1 < 0 by rw [t_lt]; simp only [Int32.reduceToInt]; omega), if_pos (show a1 ≤ 600 by rw [t_le]; simp only [Int32.reduceToInt]; omega), ilet_e, e3]
    have lb := lim_b (p := N.1 156 3) (by omega) (by omega)
    obtain ⟨r, r1, r2⟩ := stop_L h (b := a1) ⟨by omega, by omega⟩ rfl 1024 1 0 0 (by omega) (by omega) (by decide) FU FU (by rw [FU_eq]; omega) (by rw [FU_eq]; omega)
    exact sim_i r1 r2 (Rel_next h)
