theorem o8 {x : Int32} (h1 : 0 ≤ x.toInt) (h2 : x.toInt < 8) : x = 0 ∨ x = 1 ∨ x = 2 ∨ x = 3 ∨ x = 4 ∨ x = 5 ∨ x = 6 ∨ x = 7 := by
  rcases (show x.toInt = 0 ∨ x.toInt = 1 ∨ x.toInt = 2 ∨ x.toInt = 3 ∨ x.toInt = 4 ∨ x.toInt = 5 ∨ x.toInt = 6 ∨ x.toInt = 7 by omega) with q | q | q | q | q | q | q | q
  · exact Or.inl (t_eq.mpr q)
  · exact Or.inr (Or.inl (t_eq.mpr q))
  · exact Or.inr (Or.inr (Or.inl (t_eq.mpr q)))
  · exact Or.inr (Or.inr (Or.inr (Or.inl (t_eq.mpr q))))
  · exact Or.inr (Or.inr (Or.inr (Or.inr (Or.inl (t_eq.mpr q)))))
  · exact Or.inr (Or.inr (Or.inr (Or.inr (Or.inr (Or.inl (t_eq.mpr q))))))
  · exact Or.inr (Or.inr (Or.inr (Or.inr (Or.inr (Or.inr (Or.inl (t_eq.mpr q)))))))
  · exact Or.inr (Or.inr (Or.inr (Or.inr (Or.inr (Or.inr (Or.inr (t_eq.mpr q)))))))
theorem o9 {x : Int32} (h1 : 0 ≤ x.toInt) (h2 : x.toInt < 9) : x = 0 ∨ x = 1 ∨ x = 2 ∨ x = 3 ∨ x = 4 ∨ x = 5 ∨ x = 6 ∨ x = 7 ∨ x = 8 := by
  rcases (show x.toInt = 0 ∨ x.toInt = 1 ∨ x.toInt = 2 ∨ x.toInt = 3 ∨ x.toInt = 4 ∨ x.toInt = 5 ∨ x.toInt = 6 ∨ x.toInt = 7 ∨ x.toInt = 8 by omega) with q | q | q | q | q | q | q | q | q
  · exact Or.inl (t_eq.mpr q)
  · exact Or.inr (Or.inl (t_eq.mpr q))
  · exact Or.inr (Or.inr (Or.inl (t_eq.mpr q)))
  · exact Or.inr (Or.inr (Or.inr (Or.inl (t_eq.mpr q))))
  · exact Or.inr (Or.inr (Or.inr (Or.inr (Or.inl (t_eq.mpr q)))))
  · exact Or.inr (Or.inr (Or.inr (Or.inr (Or.inr (Or.inl (t_eq.mpr q))))))
  · exact Or.inr (Or.inr (Or.inr (Or.inr (Or.inr (Or.inr (Or.inl (t_eq.mpr q)))))))
  · exact Or.inr (Or.inr (Or.inr (Or.inr (Or.inr (Or.inr (Or.inr (Or.inl (t_eq.mpr q))))))))
  · exact Or.inr (Or.inr (Or.inr (Or.inr (Or.inr (Or.inr (Or.inr (Or.inr (t_eq.mpr q))))))))
theorem o3 {x : Int32} (h1 : 0 ≤ x.toInt) (h2 : x.toInt < 3) : x = 0 ∨ x = 1 ∨ x = 2 := by
  rcases (show x.toInt = 0 ∨ x.toInt = 1 ∨ x.toInt = 2 by omega) with q | q | q
  · exact Or.inl (t_eq.mpr q)
  · exact Or.inr (Or.inl (t_eq.mpr q))
  · exact Or.inr (Or.inr (t_eq.mpr q))
theorem o6 {x : Int32} (h1 : 0 ≤ x.toInt) (h2 : x.toInt < 6) : x = 0 ∨ x = 1 ∨ x = 2 ∨ x = 3 ∨ x = 4 ∨ x = 5 := by
  rcases (show x.toInt = 0 ∨ x.toInt = 1 ∨ x.toInt = 2 ∨ x.toInt = 3 ∨ x.toInt = 4 ∨ x.toInt = 5 by omega) with q | q | q | q | q | q
  · exact Or.inl (t_eq.mpr q)
  · exact Or.inr (Or.inl (t_eq.mpr q))
  · exact Or.inr (Or.inr (Or.inl (t_eq.mpr q)))
  · exact Or.inr (Or.inr (Or.inr (Or.inl (t_eq.mpr q))))
  · exact Or.inr (Or.inr (Or.inr (Or.inr (Or.inl (t_eq.mpr q)))))
  · exact Or.inr (Or.inr (Or.inr (Or.inr (Or.inr (t_eq.mpr q)))))

theorem fi_1 {c : Nat} {C N : Mem} (h : Rel c C N) {v : Int32} (hv : bd v 1 20) {m : Nat} (hm : (N.1 156 0).toInt = m) {K : Option (Int32 × Mem)} {w : Nat} (hw : w ≤ 20) : ∀ (n k : Nat), k + n = m → ∀ F1, n < F1 → (∀ j, k ≤ j → j < m → outx N j (N.1 156 5 - nI w * v) = 0) → fm_firstOut_L25 N v (nI w) K F1 (nI k) = K := by
  obtain ⟨⟨hS, hJ, hL, hF, hA, hP, hW, hV⟩, -⟩ := id h
  obtain ⟨⟨e0, b0⟩, ⟨e1, b1⟩, ⟨e2, b2⟩, ⟨e3, b3⟩, ⟨e5, b5⟩, ⟨e6, b6⟩, ⟨e7, b7⟩, ⟨e4, b4⟩, e8⟩ := id hS
  obtain ⟨l0, u0⟩ := id b0
  obtain ⟨l1, u1⟩ := id b1
  obtain ⟨l2, u2⟩ := id b2
  obtain ⟨l3, u3⟩ := id b3
  obtain ⟨l5, u5⟩ := id b5
  obtain ⟨l6, u6⟩ := id b6
  obtain ⟨l7, u7⟩ := id b7
  obtain ⟨l4, u4⟩ := id b4
  have L := LeapOK.of h
  intro n
  induction n with
  | zero =>
    intro k hk F1 h1 hp
    obtain ⟨F1, rfl⟩ : ∃ m, F1 = m + 1 := ⟨F1 - 1, by omega⟩
    have tk := t_nI (show k < 2147483648 by omega)
    rw [fm_firstOut_L25, if_pos (by rw [t_le, ix_0, tk]; omega)]
  | succ n ih =>
    intro k hk F1 h1 hp
    obtain ⟨F1, rfl⟩ : ∃ m, F1 = m + 1 := ⟨F1 - 1, by omega⟩
    have tk := t_nI (show k < 2147483648 by omega)
    have tw := t_nI (show w < 2147483648 by omega)
    have xk := ix_nI (show k < 2147483648 by omega)
    rw [fm_firstOut_L25, if_neg (by rw [t_le, ix_0, tk]; omega), ix_5, L.om (by omega) (by omega) (lev_w b5 ⟨by omega, by omega⟩ hv), xk, hp k (by omega) (by omega)]
    simp only [Option.bind_some, if_true, nI_1]
    exact ih (k + 1) (by omega) F1 (by omega) (fun j x y => hp j (by omega) y)
theorem fi_2 {c : Nat} {C N : Mem} (h : Rel c C N) {v : Int32} (hv : bd v 1 20) {m : Nat} (hm : (N.1 156 0).toInt = m) {K : Option (Int32 × Mem)} {w b : Nat} (hw : w ≤ 20) (hb : b < m) (hP : outx N b (N.1 156 5 - nI w * v) ≠ 0) : ∀ (n k : Nat), k + n = b → ∀ F1, n < F1 → (∀ j, k ≤ j → j < b → outx N j (N.1 156 5 - nI w * v) = 0) → fm_firstOut_L25 N v (nI w) K F1 (nI k) = some (nI b, N) := by
  obtain ⟨⟨hS, hJ, hL, hF, hA, hP, hW, hV⟩, -⟩ := id h
  obtain ⟨⟨e0, b0⟩, ⟨e1, b1⟩, ⟨e2, b2⟩, ⟨e3, b3⟩, ⟨e5, b5⟩, ⟨e6, b6⟩, ⟨e7, b7⟩, ⟨e4, b4⟩, e8⟩ := id hS
  obtain ⟨l0, u0⟩ := id b0
  obtain ⟨l1, u1⟩ := id b1
  obtain ⟨l2, u2⟩ := id b2
  obtain ⟨l3, u3⟩ := id b3
  obtain ⟨l5, u5⟩ := id b5
  obtain ⟨l6, u6⟩ := id b6
  obtain ⟨l7, u7⟩ := id b7
  obtain ⟨l4, u4⟩ := id b4
  have L := LeapOK.of h
  intro n
  induction n with
  | zero =>
    intro k hk F1 h1 hp
    obtain ⟨F1, rfl⟩ : ∃ m, F1 = m + 1 := ⟨F1 - 1, by omega⟩
    have hk : k = b := by omega
    subst hk
    have tk := t_nI (show k < 2147483648 by omega)
    have tw := t_nI (show w < 2147483648 by omega)
    have xk := ix_nI (show k < 2147483648 by omega)
    rw [fm_firstOut_L25, if_neg (by rw [t_le, ix_0, tk]; omega), ix_5, L.om (by omega) (by omega) (lev_w b5 ⟨by omega, by omega⟩ hv), xk]
    simp only [Option.bind_some, if_neg hP]
  | succ n ih =>
    intro k hk F1 h1 hp
    obtain ⟨F1, rfl⟩ : ∃ m, F1 = m + 1 := ⟨F1 - 1, by omega⟩
    have tk := t_nI (show k < 2147483648 by omega)
    have tw := t_nI (show w < 2147483648 by omega)
    have xk := ix_nI (show k < 2147483648 by omega)
    rw [fm_firstOut_L25, if_neg (by rw [t_le, ix_0, tk]; omega), ix_5, L.om (by omega) (by omega) (lev_w b5 ⟨by omega, by omega⟩ hv), xk, hp k (by omega) (by omega)]
    simp only [Option.bind_some, if_true, nI_1]
    exact ih (k + 1) (by omega) F1 (by omega) (fun j x y => hp j (by omega) y)
theorem fi_3 {c : Nat} {C N : Mem} (h : Rel c C N) {v : Int32} (hv : bd v 1 20) {m : Nat} (hm : (N.1 156 0).toInt = m) : ∀ (n k : Nat), k + n = 21 → ∀ F1, n < F1 → (∀ u, k ≤ u → u ≤ 20 → ∀ j, j < m → outx N j (N.1 156 5 - nI u * v) = 0) → fm_firstOut_L17 N v F1 (nI k) = some (-1, N) := by
  obtain ⟨⟨hS, hJ, hL, hF, hA, hP, hW, hV⟩, -⟩ := id h
  obtain ⟨⟨e0, b0⟩, ⟨e1, b1⟩, ⟨e2, b2⟩, ⟨e3, b3⟩, ⟨e5, b5⟩, ⟨e6, b6⟩, ⟨e7, b7⟩, ⟨e4, b4⟩, e8⟩ := id hS
  obtain ⟨l0, u0⟩ := id b0
  obtain ⟨l1, u1⟩ := id b1
  obtain ⟨l2, u2⟩ := id b2
  obtain ⟨l3, u3⟩ := id b3
  obtain ⟨l5, u5⟩ := id b5
  obtain ⟨l6, u6⟩ := id b6
  obtain ⟨l7, u7⟩ := id b7
  obtain ⟨l4, u4⟩ := id b4
  have L := LeapOK.of h
  intro n
  induction n with
  | zero =>
    intro k hk F1 h1 hp
    obtain ⟨F1, rfl⟩ : ∃ m, F1 = m + 1 := ⟨F1 - 1, by omega⟩
    have hk : k = 21 := by omega
    subst hk
    rw [fm_firstOut_L17, if_pos (by decide)]
  | succ n ih =>
    intro k hk F1 h1 hp
    obtain ⟨F1, rfl⟩ : ∃ m, F1 = m + 1 := ⟨F1 - 1, by omega⟩
    have tk := t_nI (show k < 2147483648 by omega)
    rw [fm_firstOut_L17, if_neg (by rw [t_lt, tk]; simp only [Int32.reduceToInt]; omega), show (0 : Int32) = nI 0 from rfl, fi_1 h hv hm (by omega) m 0 (by omega) FU (by rw [FU_eq]; omega) (fun j x y => hp k (by omega) (by omega) j y), nI_1]
    exact ih (k + 1) (by omega) F1 (by omega) (fun u x y => hp u (by omega) y)
theorem fi_4 {c : Nat} {C N : Mem} (h : Rel c C N) {v : Int32} (hv : bd v 1 20) {m : Nat} (hm : (N.1 156 0).toInt = m) {w b : Nat} (hw : w ≤ 20) (hb : b < m) (hP : outx N b (N.1 156 5 - nI w * v) ≠ 0) (hj : ∀ j, j < b → outx N j (N.1 156 5 - nI w * v) = 0) : ∀ (n k : Nat), k + n = w → ∀ F1, n < F1 → (∀ u, k ≤ u → u < w → ∀ j, j < m → outx N j (N.1 156 5 - nI u * v) = 0) → fm_firstOut_L17 N v F1 (nI k) = some (nI b, N) := by
  obtain ⟨⟨hS, hJ, hL, hF, hA, hP, hW, hV⟩, -⟩ := id h
  obtain ⟨⟨e0, b0⟩, ⟨e1, b1⟩, ⟨e2, b2⟩, ⟨e3, b3⟩, ⟨e5, b5⟩, ⟨e6, b6⟩, ⟨e7, b7⟩, ⟨e4, b4⟩, e8⟩ := id hS
  obtain ⟨l0, u0⟩ := id b0
  obtain ⟨l1, u1⟩ := id b1
  obtain ⟨l2, u2⟩ := id b2
  obtain ⟨l3, u3⟩ := id b3
  obtain ⟨l5, u5⟩ := id b5
  obtain ⟨l6, u6⟩ := id b6
  obtain ⟨l7, u7⟩ := id b7
  obtain ⟨l4, u4⟩ := id b4
  have L := LeapOK.of h
  intro n
  induction n with
  | zero =>
    intro k hk F1 h1 hp
    obtain ⟨F1, rfl⟩ : ∃ m, F1 = m + 1 := ⟨F1 - 1, by omega⟩
    have hk : k = w := by omega
    subst hk
    have tk := t_nI (show k < 2147483648 by omega)
    rw [fm_firstOut_L17, if_neg (by rw [t_lt, tk]; simp only [Int32.reduceToInt]; omega), show (0 : Int32) = nI 0 from rfl, fi_2 h hv hm hw hb hP b 0 (by omega) FU (by rw [FU_eq]; omega) (fun j x y => hj j y)]
  | succ n ih =>
    intro k hk F1 h1 hp
    obtain ⟨F1, rfl⟩ : ∃ m, F1 = m + 1 := ⟨F1 - 1, by omega⟩
    have tk := t_nI (show k < 2147483648 by omega)
    rw [fm_firstOut_L17, if_neg (by rw [t_lt, tk]; simp only [Int32.reduceToInt]; omega), show (0 : Int32) = nI 0 from rfl, fi_1 h hv hm (by omega) m 0 (by omega) FU (by rw [FU_eq]; omega) (fun j x y => hp k (by omega) (by omega) j y), nI_1]
    exact ih (k + 1) (by omega) F1 (by omega) (fun u x y => hp u (by omega) y)
def FO (N : Mem) (v : Int32) (k : Nat) (x2 x3 : Int32) : Prop := (x2 = -1 ∧ x3 = 21 ∧ ∀ j, j < k → ∀ w, w ≤ 20 → outx N j (N.1 156 5 - nI w * v) = 0) ∨ ∃ b w : Nat, x2 = nI b ∧ x3 = nI w ∧ b < k ∧ w ≤ 20 ∧ outx N b (N.1 156 5 - nI w * v) ≠ 0 ∧ (∀ j, j < b → outx N j (N.1 156 5 - nI w * v) = 0) ∧ ∀ u, u < w → ∀ j, j < k → outx N j (N.1 156 5 - nI u * v) = 0
theorem fi_5 {c : Nat} {C N : Mem} (h : Rel c C N) {v : Int32} (hv : bd v 1 20) {m : Nat} (hm : (N.1 156 0).toInt = m) : ∀ (n k : Nat), k + n = m → ∀ F1, n < F1 → ∀ x2 x3, FO N v k x2 x3 → ∃ r r2, fc_firstOut_L25 C v F1 x2 x3 (nI k) = some (r, C) ∧ FO N v m r r2 := by
  obtain ⟨⟨hS, hJ, hL, hF, hA, hP, hW, hV⟩, -⟩ := id h
  obtain ⟨⟨e0, b0⟩, ⟨e1, b1⟩, ⟨e2, b2⟩, ⟨e3, b3⟩, ⟨e5, b5⟩, ⟨e6, b6⟩, ⟨e7, b7⟩, ⟨e4, b4⟩, e8⟩ := id hS
  obtain ⟨l0, u0⟩ := id b0
  obtain ⟨l1, u1⟩ := id b1
  obtain ⟨l2, u2⟩ := id b2
  obtain ⟨l3, u3⟩ := id b3
  obtain ⟨l5, u5⟩ := id b5
  obtain ⟨l6, u6⟩ := id b6
  obtain ⟨l7, u7⟩ := id b7
  obtain ⟨l4, u4⟩ := id b4
  have L := LeapOK.of h
  intro n
  induction n with
  | zero =>
    intro k hk F1 h1 x2 x3 hp
    obtain ⟨F1, rfl⟩ : ∃ m, F1 = m + 1 := ⟨F1 - 1, by omega⟩
    have hk : k = m := by omega
    subst hk
    have tk := t_nI (show k < 2147483648 by omega)
    rw [fc_firstOut_L25, if_pos (by rw [t_le, e0, tk]; omega)]
    exact ⟨x2, x3, rfl, hp⟩
  | succ n ih =>
    intro k hk F1 h1 x2 x3 hp
    obtain ⟨F1, rfl⟩ : ∃ m, F1 = m + 1 := ⟨F1 - 1, by omega⟩
    have tk := t_nI (show k < 2147483648 by omega)
    have xk := ix_nI (show k < 2147483648 by omega)
    obtain ⟨r, r1, -, r3⟩ := week_L h (j := nI k) (v := v) (by omega) (by omega) hv 21 0 (by omega) FU FU (by rw [FU_eq]; omega) (by rw [FU_eq]; omega)
    have r1 : fLake_firstWeekOut C (nI k) v = some r := r1
    rw [xk] at r3
    rw [fc_firstOut_L25, if_neg (by rw [t_le, e0, tk]; omega), r1]
    simp only [Option.bind_some, jlet_e, nI_1]
    rcases r3 with ⟨a, b⟩ | ⟨w, a, b, d, e, f⟩
    · rw [if_pos a]
      refine ih (k + 1) (by omega) F1 (by omega) x2 x3 ?_
      rcases hp with ⟨p, q, s⟩ | ⟨B, W, p, q, s, t, u, x, y⟩
      · refine Or.inl ⟨p, q, fun j z w' z2 => ?_⟩
        by_cases g : j = k
        · rw [g]; exact b w' (by omega) z2
        · exact s j (by omega) w' z2
      · refine Or.inr ⟨B, W, p, q, by omega, t, u, x, fun u' z j z2 => ?_⟩
        by_cases g : j = k
        · rw [g]; exact b u' (by omega) (by omega)
        · exact y u' z j (by omega)
    · have tw := t_nI (show w < 2147483648 by omega)
      rw [a, if_neg (nI_ne_m1 (by omega))]
      rcases hp with ⟨p, q, s⟩ | ⟨B, W, p, q, s, t, u, x, y⟩
      · rw [if_neg (by rw [q, t_le, tw]; simp only [Int32.reduceToInt]; omega)]
        refine ih (k + 1) (by omega) F1 (by omega) _ _ (Or.inr ⟨k, w, rfl, rfl, by omega, d, e, fun j z => s j z w d, fun u z j z2 => ?_⟩)
        by_cases g : j = k
        · rw [g]; exact f u (by omega) z
        · exact s j (by omega) u (by omega)
      · have tW := t_nI (show W < 2147483648 by omega)
        by_cases g : W ≤ w
        · rw [if_pos (by rw [q, t_le, tw, tW]; omega)]
          refine ih (k + 1) (by omega) F1 (by omega) x2 x3 (Or.inr ⟨B, W, p, q, by omega, t, u, x, fun u' z j z2 => ?_⟩)
          by_cases g : j = k
          · rw [g]; exact f u' (by omega) (by omega)
          · exact y u' z j (by omega)
        · rw [if_neg (by rw [q, t_le, tw, tW]; omega)]
          refine ih (k + 1) (by omega) F1 (by omega) _ _ (Or.inr ⟨k, w, rfl, rfl, by omega, d, e, fun j z => y w (by omega) j z, fun u z j z2 => ?_⟩)
          by_cases g : j = k
          · rw [g]; exact f u (by omega) z
          · exact y u (by omega) j (by omega)
theorem op_firstOut {c : Nat} {C N : Mem} (h : Rel c C N) (a1 : Int32) : Sim c (fc_firstOut C a1) (fm_firstOut N a1) := by
  obtain ⟨⟨hS, hJ, hL, hF, hA, hP, hW, hV⟩, -⟩ := id h
  obtain ⟨⟨e0, b0⟩, ⟨e1, b1⟩, ⟨e2, b2⟩, ⟨e3, b3⟩, ⟨e5, b5⟩, ⟨e6, b6⟩, ⟨e7, b7⟩, ⟨e4, b4⟩, e8⟩ := id hS
  obtain ⟨l0, u0⟩ := id b0
  obtain ⟨l1, u1⟩ := id b1
  obtain ⟨l2, u2⟩ := id b2
  obtain ⟨l3, u3⟩ := id b3
  obtain ⟨l5, u5⟩ := id b5
  obtain ⟨l6, u6⟩ := id b6
  obtain ⟨l7, u7⟩ := id b7
  obtain ⟨l4, u4⟩ := id b4
  have L := LeapOK.of h
  by_cases hb : a1.toInt < 1 ∨ 20 < a1.toInt
  · refine sim_2 h ?_ ?_
    · unfold fc_firstOut
      simp only [bind_eta, mlet_e, ilet_e, llet_e, jlet_e, shelf_0, below_0, within_0, hour_0, jetty_0, law_0, leaper_0, mshelf_0, mhour_0, mspot_0, mlevel_0, mfall_0, mjetty_0, mlaw_0, mleaper_0, ix_0, ix_1, ix_2, ix_3, ix_4, ix_5, ix_6, ix_7, ix_8, ix_9]
      try simp only [t_lt, t_le, Int32.reduceToInt, ix_0, ix_1, ix_2, ix_3, ix_4, ix_5, ix_6, ix_7, ix_8, ix_9]
      repeat' split
      all_goals first | rfl | (exfalso; omega)
    · unfold fm_firstOut
      simp only [bind_eta, mlet_e, ilet_e, llet_e, jlet_e, shelf_0, below_0, within_0, hour_0, jetty_0, law_0, leaper_0, mshelf_0, mhour_0, mspot_0, mlevel_0, mfall_0, mjetty_0, mlaw_0, mleaper_0, ix_0, ix_1, ix_2, ix_3, ix_4, ix_5, ix_6, ix_7, ix_8, ix_9]
      try simp only [t_lt, t_le, Int32.reduceToInt, ix_0, ix_1, ix_2, ix_3, ix_4, ix_5, ix_6, ix_7, ix_8, ix_9]
      repeat' split
      all_goals first | rfl | (exfalso; omega)
  · obtain ⟨m, hm⟩ : ∃ m : Nat, (N.1 156 0).toInt = m := ⟨ix (N.1 156 0), (t_ix l0).symm⟩
    have hv : bd a1 1 20 := ⟨by omega, by omega⟩
    obtain ⟨r, r2, r1, hF⟩ := fi_5 h hv hm m 0 (by omega) FU (by rw [FU_eq]; omega) (-1) 21 (Or.inl ⟨rfl, rfl, fun j z => by omega⟩)
    refine sim_i (r := r) (C' := C) (N' := N) ?_ ?_ (Rel_next h)
    · unfold fc_firstOut
      rw [if_neg (by rw [within_0]; simp only [Int32.reduceToInt]; omega)]
      exact r1
    · unfold fm_firstOut
      rw [if_neg (by rw [mfall_0]; omega), show (0 : Int32) = nI 0 from rfl]
      rcases hF with ⟨p, q, s⟩ | ⟨b, w, p, q, s, t, u, x, y⟩
      · rw [p]
        exact fi_3 h hv hm 21 0 (by omega) FU (by rw [FU_eq]; omega) (fun u z z2 j z3 => s j z3 u z2)
      · rw [p]
        exact fi_4 h hv hm t s u x w 0 (by omega) FU (by rw [FU_eq]; omega) (fun u z z2 j z3 => y u z2 j z3)
-- jettyOf
theorem num_b {M : Mem} {x : Int32} (h : bd x 0 1) : fc_toNumberT M x = x := by
  rcases isB_of h with rfl | rfl <;> rfl
theorem outx_B (N : Mem) (n : Nat) (v : Int32) : bd (outx N n v) 0 1 := by
  unfold outx
  split <;> exact ⟨by decide, by decide⟩
theorem bb_num {α : Type} {x : Int32} {N : α} (h : bd x 0 1) : (if x = 0 then some ((0 : Int32), N) else some (1, N)) = some (x, N) := by
  rcases isB_of h with rfl | rfl <;> rfl
theorem isB_bd {x : Int32} (h : isB x) : bd x 0 1 := by
  rcases h with rfl | rfl <;> exact ⟨by decide, by decide⟩
theorem op_jettyOf {c : Nat} {C N : Mem} (h : Rel c C N) (a1 a2 : Int32) : Sim c (fc_jettyOf C a1 a2) (fm_jettyOf N a1 a2) := by
  obtain ⟨⟨hS, hJ, hL, hF, hA, hP, hW, hV⟩, -⟩ := id h
  obtain ⟨⟨e0, b0⟩, ⟨e1, b1⟩, ⟨e2, b2⟩, ⟨e3, b3⟩, ⟨e5, b5⟩, ⟨e6, b6⟩, ⟨e7, b7⟩, ⟨e4, b4⟩, e8⟩ := id hS
  obtain ⟨l0, u0⟩ := id b0
  obtain ⟨l1, u1⟩ := id b1
  obtain ⟨l2, u2⟩ := id b2
  obtain ⟨l3, u3⟩ := id b3
  obtain ⟨l5, u5⟩ := id b5
  obtain ⟨l6, u6⟩ := id b6
  obtain ⟨l7, u7⟩ := id b7
  obtain ⟨l4, u4⟩ := id b4
  have L := LeapOK.of h
  by_cases hb : a1.toInt < 0 ∨ (N.1 156 0).toInt ≤ a1.toInt
  · refine sim_2 h ?_ ?_
    · unfold fc_jettyOf; rw [if_pos (by rw [jetty_0, e0]; exact hb), bind_eta]
    · unfold fm_jettyOf; rw [if_pos (by rw [mjetty_0]; exact hb), bind_eta]
  · have hi := t_ix (a := a1) (by omega)
    have hin : inb a1 20 := b_in (by omega) (by omega)
    obtain ⟨⟨q0, p0⟩, ⟨q1, p1⟩, ⟨q2, p2⟩, ⟨q3, p3⟩, ⟨q4, p4⟩⟩ := hJ (ix a1) (by omega)
    unfold fc_jettyOf fm_jettyOf
    rw [if_neg (show ¬ fc_isJettyT C a1 = 0 by rw [jetty_0, e0]; exact hb), if_neg (show ¬ fm_isJettyT N a1 = 0 by rw [mjetty_0]; exact hb)]
    simp only [gd_t hin]
    by_cases hk : a2.toInt < 0 ∨ 7 < a2.toInt
    · have d0 : ¬ a2 = 0 := fun q => by rw [q] at hk; revert hk; decide
      have d1 : ¬ a2 = 1 := fun q => by rw [q] at hk; revert hk; decide
      have d2 : ¬ a2 = 2 := fun q => by rw [q] at hk; revert hk; decide
      have d3 : ¬ a2 = 3 := fun q => by rw [q] at hk; revert hk; decide
      have d4 : ¬ a2 = 4 := fun q => by rw [q] at hk; revert hk; decide
      have d5 : ¬ a2 = 5 := fun q => by rw [q] at hk; revert hk; decide
      have d6 : ¬ a2 = 6 := fun q => by rw [q] at hk; revert hk; decide
      have d7 : ¬ a2 = 7 := fun q => by rw [q] at hk; revert hk; decide
      simp only [d0, d1, d2, d3, d4, d5, d6, d7, if_false, bind_eta]
      refine sim_2 h rfl ?_
      by_cases g : a2 < 0
      · rw [if_pos g]
      · rw [t_lt] at g
        simp only [Int32.reduceToInt] at g
        rw [if_neg (show ¬ a2 < 0 by rw [t_lt]; simp only [Int32.reduceToInt]; omega), if_neg (show ¬ a2 ≤ 7 by rw [t_le]; simp only [Int32.reduceToInt]; omega)]
    · rw [if_neg (show ¬ a2 < 0 by rw [t_lt]; simp only [Int32.reduceToInt]; omega), if_pos (show a2 ≤ 7 by rw [t_le]; simp only [Int32.reduceToInt]; omega)]
      rcases o8 (x := a2) (by omega) (by omega) with rfl | rfl | rfl | rfl | rfl | rfl | rfl | rfl
      · exact sim_i (by rw [if_pos rfl, q0]) (by rw [if_pos rfl]) (Rel_next h)
      · exact sim_i (by rw [if_neg (by decide), if_pos rfl, q1]) (by rw [if_neg (by decide), if_pos rfl]) (Rel_next h)
      · exact sim_i (by rw [if_neg (by decide), if_neg (by decide), if_pos rfl, q2]) (by rw [if_neg (by decide), if_neg (by decide), if_pos rfl]) (Rel_next h)
      · exact sim_i (by rw [if_neg (by decide), if_neg (by decide), if_neg (by decide), if_pos rfl, q3]) (by rw [if_neg (by decide), if_neg (by decide), if_neg (by decide), if_pos rfl]) (Rel_next h)
      · exact sim_i (by rw [if_neg (by decide), if_neg (by decide), if_neg (by decide), if_neg (by decide), if_pos rfl, pcs_c hJ (by omega)]) (by rw [if_neg (by decide), if_neg (by decide), if_neg (by decide), if_neg (by decide), if_pos rfl, pcs_m hJ u0 (by omega) (by omega)]; rfl) (Rel_next h)
      · exact sim_i (by rw [if_neg (by decide), if_neg (by decide), if_neg (by decide), if_neg (by decide), if_neg (by decide), if_pos rfl, q4, num_b p4]) (by rw [if_neg (by decide), if_neg (by decide), if_neg (by decide), if_neg (by decide), if_neg (by decide), if_pos rfl]) (Rel_next h)
      · exact sim_i (by rw [if_neg (by decide), if_neg (by decide), if_neg (by decide), if_neg (by decide), if_neg (by decide), if_neg (by decide), if_pos rfl, outx_c hJ e6 (by omega), e5, num_b (outx_B _ _ _)]) (by rw [if_neg (by decide), if_neg (by decide), if_neg (by decide), if_neg (by decide), if_neg (by decide), if_neg (by decide), if_pos rfl, ix_5, L.om (by omega) (by omega) L.lv]; exact bb_num (outx_B _ _ _)) (Rel_next h)
      · exact sim_i (by rw [if_neg (by decide), if_neg (by decide), if_neg (by decide), if_neg (by decide), if_neg (by decide), if_neg (by decide), if_neg (by decide), if_pos rfl, L.sp]; simp only [Option.bind_some]; rw [L.tc (by omega) L.lb.2.1.1]; simp only [Option.bind_some]; rw [num_b (isB_bd (tmx_B _ _ _))]) (by rw [if_neg (by decide), if_neg (by decide), if_neg (by decide), if_neg (by decide), if_neg (by decide), if_neg (by decide), if_neg (by decide), L.tm1 (by omega) (by omega)]; exact bb_num (isB_bd (tmx_B _ _ _))) (Rel_next h)
-- says
theorem kind_L {M : Mem} {n : Nat} {k a : Int32} (hk : bd k 0 5) (ha1 : 0 ≤ a.toInt) (ha2 : a.toInt < 6) : fJetty_isOfKind_L7 M a (n + 8) k 0 = some (fm_isUnderT M k a) := by
  rcases kinds hk with rfl | rfl | rfl | rfl | rfl | rfl <;> rcases o6 ha1 ha2 with rfl | rfl | rfl | rfl | rfl | rfl <;> rfl
theorem FU_8 : ∃ n, FU = n + 8 := ⟨99992, FU_eq⟩
theorem kind_c {C N : Mem} (hJ : NJ C N) {n : Nat} (hn : (n : Int) < (N.1 156 0).toInt) {a : Int32} (ha1 : 0 ≤ a.toInt) (ha2 : a.toInt < 6) : fJetty_isOfKind C n a = some (fm_isUnderT N (N.1 142 n) a) := by
  obtain ⟨⟨q0, p0⟩, -⟩ := hJ n hn
  obtain ⟨f, hf⟩ := FU_8
  unfold fJetty_isOfKind
  rw [ilet_e, hf, q0, kind_L p0 ha1 ha2]
  rfl
theorem op_says {c : Nat} {C N : Mem} (h : Rel c C N) (a1 a2 : Int32) : Sim c (fc_says C a1 a2) (fm_says N a1 a2) := by
  obtain ⟨⟨hS, hJ, hL, hF, hA, hP, hW, hV⟩, -⟩ := id h
  obtain ⟨⟨e0, b0⟩, ⟨e1, b1⟩, ⟨e2, b2⟩, ⟨e3, b3⟩, ⟨e5, b5⟩, ⟨e6, b6⟩, ⟨e7, b7⟩, ⟨e4, b4⟩, e8⟩ := id hS
  obtain ⟨l0, u0⟩ := id b0
  obtain ⟨l1, u1⟩ := id b1
  obtain ⟨l2, u2⟩ := id b2
  obtain ⟨l3, u3⟩ := id b3
  obtain ⟨l5, u5⟩ := id b5
  obtain ⟨l6, u6⟩ := id b6
  obtain ⟨l7, u7⟩ := id b7
  obtain ⟨l4, u4⟩ := id b4
  have L := LeapOK.of h
  by_cases hb : (a1.toInt < 0 ∨ 8 ≤ a1.toInt) ∨ (a2.toInt < 0 ∨ 6 ≤ a2.toInt)
  · refine sim_2 h ?_ ?_
    · unfold fc_says
      by_cases q : a1.toInt < 0 ∨ 8 ≤ a1.toInt
      · rw [if_pos (by rw [shelf_0]; exact q), bind_eta]
      · rw [if_neg (by rw [shelf_0]; exact q), if_pos (by rw [below_0]; simp only [Int32.reduceToInt]; omega), bind_eta]
    · unfold fm_says
      by_cases q : a1.toInt < 0 ∨ 8 ≤ a1.toInt
      · rw [if_pos (by rw [mshelf_0]; exact q), bind_eta]
      · rw [if_neg (by rw [mshelf_0]; exact q)]
        by_cases q2 : a2.toInt < 0
        · rw [if_pos (by rw [t_lt]; exact q2), bind_eta]
        · rw [if_neg (by rw [t_lt]; exact q2), if_neg (by rw [t_le]; simp only [Int32.reduceToInt]; omega), bind_eta]
  · have hi := t_ix (a := a1) (by omega)
    have hin : inb a1 8 := b_in (by omega) (by omega)
    unfold fc_says fm_says fm_isRow
    rw [if_neg (show ¬ fc_isShelfT C a1 = 0 by rw [shelf_0]; omega), if_neg (show ¬ fc_isBelowT C a2 6 = 0 by rw [below_0]; simp only [Int32.reduceToInt]; omega), if_neg (show ¬ fm_isShelfT N a1 = 0 by rw [mshelf_0]; omega), if_neg (show ¬ a2 < 0 by rw [t_lt]; simp only [Int32.reduceToInt]; omega), if_pos (show a2 ≤ 5 by rw [t_le]; simp only [Int32.reduceToInt]; omega)]
    simp only [gd_t hin]
    rcases h.2.1 (ix a1) (by omega) with ⟨x1, x2, x3, x4⟩ | ⟨t, ht, x1, x2, x3, x4, x5, x6⟩ | ⟨x1, x2, x3, x4, x5⟩
    · refine sim_4 h ?_ ?_
      · rw [if_pos x2, x4, if_pos (by rw [jetty_0]; simp only [Int32.reduceToInt]; omega), bind_eta]
      · rw [x1, if_pos (by decide)]
        simp only [Option.bind_some]
        rw [if_pos trivial, if_neg (by decide), bind_eta]
    · refine sim_3 h ?_ ?_
      · rw [x2, if_neg (nI_ne_m1 (by omega)), bind_eta]
      · rw [x1, if_neg (by rw [t_lt, t_nI (by omega)]; simp only [Int32.reduceToInt]; omega)]
        simp only [Option.bind_some]
        rw [if_neg (by decide), bind_eta]
    · rw [e0] at x5
      rw [if_pos x1, x3, if_neg (by rw [jetty_0, e0]; omega), gd_t (b_in (by omega) (by omega)), if_pos (by rw [t_lt]; simp only [Int32.reduceToInt]; omega)]
      simp only [Option.bind_some, ilet_e]
      rw [if_pos trivial, if_pos (by rw [t_le]; simp only [Int32.reduceToInt]; omega)]
      have hin2 : inb (N.1 139 (ix a1)) 20 := b_in (by omega) (by omega)
      have hi2 := t_ix x4
      simp only [gd_t hin2]
      rw [kind_c hJ (by omega) (by omega) (by omega)]
      simp only [Option.bind_some]
      obtain ⟨⟨q0, p0⟩, ⟨q1, p1⟩, ⟨q2, p2⟩, ⟨q3, p3⟩, ⟨q4, p4⟩⟩ := hJ (ix (N.1 139 (ix a1))) (by omega)
      by_cases g : fm_isUnderT N (N.1 142 (ix (N.1 139 (ix a1)))) a2 = 0
      · rw [if_pos g, if_pos g, bind_eta, bind_eta]
        exact sim_3 h rfl rfl
      · rw [if_neg g, if_neg g]
        unfold fc_sayingT
        rw [pcs_c hJ (by omega), rsx_c hJ (by omega), pcs_m hJ u0 x4 (by omega), ix_5, rsx_m hJ u0 x4 (by omega), e5, q4, num_b p4, q1]
        simp only [Option.bind_some]
        rcases o6 (x := a2) (by omega) (by omega) with rfl | rfl | rfl | rfl | rfl | rfl <;> exact sim_i rfl rfl (Rel_next h)
-- status
theorem use_L {C N : Mem} (h : RS C N) (hj : (C.1 20 1).toInt ≤ 20) : ∀ (n k : Nat) (x : Int32), k + n = 8 → ∀ F1 F2, n < F1 → n < F2 → ∃ r, fc_shelvesInUse_L4 C F1 x (nI k) = some r ∧ fm_status_L49 N F2 x (nI k) = some r := by
  intro n
  induction n with
  | zero =>
    intro k x hk F1 F2 h1 h2
    obtain ⟨F1, rfl⟩ : ∃ m, F1 = m + 1 := ⟨F1 - 1, by omega⟩
    obtain ⟨F2, rfl⟩ : ∃ m, F2 = m + 1 := ⟨F2 - 1, by omega⟩
    have hk : k = 8 := by omega
    subst hk
    refine ⟨x, ?_, ?_⟩
    · rw [fc_shelvesInUse_L4, if_pos (by decide)]
    · rw [fm_status_L49, if_pos (by decide)]
  | succ n ih =>
    intro k x hk F1 F2 h1 h2
    obtain ⟨F1, rfl⟩ : ∃ m, F1 = m + 1 := ⟨F1 - 1, by omega⟩
    obtain ⟨F2, rfl⟩ : ∃ m, F2 = m + 1 := ⟨F2 - 1, by omega⟩
    have tk := t_nI (show k < 2147483648 by omega)
    have xk := ix_nI (show k < 2147483648 by omega)
    have hin : inb (nI k) 8 := b_in (by omega) (by omega)
    have hle : ¬ (8 : Int32) ≤ nI k := by rw [t_le, tk]; simp only [Int32.reduceToInt]; omega
    rw [fc_shelvesInUse_L4, fm_status_L49, if_neg hle, if_neg hle, gd_t hin, gd_t hin, xk]
    simp only [jlet_e, ilet_e, nI_1]
    unfold fShelf_isEmptyT
    rcases h k (by omega) with ⟨e1, e2, e3, e4⟩ | ⟨t, ht, e1, e2, e3, e4, e5, e6⟩ | ⟨e1, e2, e3, e4, e5⟩
    · rw [e1, e2, e4]
      simp only [if_true, num_f, Int32.add_zero]
      rw [if_neg (by decide), if_pos (by decide)]
      exact ih (k + 1) x (by omega) F1 F2 (by omega) (by omega)
    · rw [e1, e2, if_neg (nI_ne_m1 (by omega)), if_pos rfl, num_t, if_neg (by rw [t_lt, t_nI (by omega)]; simp only [Int32.reduceToInt]; omega)]
      exact ih (k + 1) _ (by omega) F1 F2 (by omega) (by omega)
    · rw [e1, e3, if_pos rfl, if_neg (m1_ne e4), if_pos rfl, num_t, if_neg (by rw [t_lt]; simp only [Int32.reduceToInt]; omega)]
      exact ih (k + 1) _ (by omega) F1 F2 (by omega) (by omega)
theorem op_status {c : Nat} {C N : Mem} (h : Rel c C N) (a1 : Int32) : ∃ r, fc_status C a1 = some r ∧ fm_status N a1 = some r := by
  obtain ⟨⟨hS, hJ, hL, hF, hA, hP, hW, hV⟩, -⟩ := id h
  obtain ⟨⟨e0, b0⟩, ⟨e1, b1⟩, ⟨e2, b2⟩, ⟨e3, b3⟩, ⟨e5, b5⟩, ⟨e6, b6⟩, ⟨e7, b7⟩, ⟨e4, b4⟩, e8⟩ := id hS
  obtain ⟨l0, u0⟩ := id b0
  obtain ⟨l1, u1⟩ := id b1
  obtain ⟨l2, u2⟩ := id b2
  obtain ⟨l3, u3⟩ := id b3
  obtain ⟨l5, u5⟩ := id b5
  obtain ⟨l6, u6⟩ := id b6
  obtain ⟨l7, u7⟩ := id b7
  obtain ⟨l4, u4⟩ := id b4
  have L := LeapOK.of h
  obtain ⟨-, -, ⟨t1, t2, -⟩, ⟨f0, f1, f2, f3, f4⟩, -⟩ := id h
  unfold fc_status fm_status
  simp only [jlet_e]
  by_cases hk : a1.toInt < 0 ∨ 8 < a1.toInt
  · have d0 : ¬ a1 = 0 := fun q => by rw [q] at hk; revert hk; decide
    have d1 : ¬ a1 = 1 := fun q => by rw [q] at hk; revert hk; decide
    have d2 : ¬ a1 = 2 := fun q => by rw [q] at hk; revert hk; decide
    have d3 : ¬ a1 = 3 := fun q => by rw [q] at hk; revert hk; decide
    have d4 : ¬ a1 = 4 := fun q => by rw [q] at hk; revert hk; decide
    have d5 : ¬ a1 = 5 := fun q => by rw [q] at hk; revert hk; decide
    have d6 : ¬ a1 = 6 := fun q => by rw [q] at hk; revert hk; decide
    have d7 : ¬ a1 = 7 := fun q => by rw [q] at hk; revert hk; decide
    have d8 : ¬ a1 = 8 := fun q => by rw [q] at hk; revert hk; decide
    simp only [d0, d1, d2, d3, d4, d5, d6, d7, d8, if_false, within_0, t_lt, t_le, Int32.reduceToInt]
    by_cases hw : a1.toInt < 12 ∨ 16 < a1.toInt
    · refine ⟨-1, ?_, ?_⟩
      · rw [if_pos hw]
      · repeat' split
        all_goals first | rfl | (exfalso; omega)
    · have s1 : (a1 - 12).toInt = a1.toInt - 12 := by rw [t_sub] <;> simp only [Int32.reduceToInt] <;> omega
      have s2 : (a1 - 10).toInt = a1.toInt - 10 := by rw [t_sub] <;> simp only [Int32.reduceToInt] <;> omega
      have s3 := t_ix (a := a1 - 12) (by omega)
      have s4 := t_ix (a := a1 - 10) (by omega)
      refine ⟨N.1 158 (ix (a1 - 10)), ?_, ?_⟩
      · rw [if_neg hw, gd_t (b_in (by omega) (by omega))]
        congr 1
        rcases (show ix (a1 - 12) = 0 ∨ ix (a1 - 12) = 1 ∨ ix (a1 - 12) = 2 ∨ ix (a1 - 12) = 3 ∨ ix (a1 - 12) = 4 by omega) with z | z | z | z | z
        · rw [z, show ix (a1 - 10) = 2 by omega, f0]
        · rw [z, show ix (a1 - 10) = 3 by omega, f1]
        · rw [z, show ix (a1 - 10) = 4 by omega, f2]
        · rw [z, show ix (a1 - 10) = 5 by omega, f3]
        · rw [z, show ix (a1 - 10) = 6 by omega, f4]
      · rw [if_neg (show ¬ a1.toInt < 0 by omega), if_pos (show (4 : Int) ≤ a1.toInt by omega), if_neg (show ¬ a1.toInt < 12 by omega), if_neg (show ¬ 16 < a1.toInt by omega), gd_t (b_in (by omega) (by omega))]
  · rcases o9 (x := a1) (by omega) (by omega) with rfl | rfl | rfl | rfl | rfl | rfl | rfl | rfl | rfl
    · exact ⟨_, congrArg some e0, rfl⟩
    · exact ⟨_, congrArg some e1, rfl⟩
    · exact ⟨_, congrArg some e2, rfl⟩
    · exact ⟨_, congrArg some e3, rfl⟩
    · exact ⟨_, congrArg some t1, rfl⟩
    · exact ⟨_, congrArg some e8, rfl⟩
    · obtain ⟨r, r1, r2⟩ := use_L h.2.1 (nsc h).1 8 0 0 (by omega) FU FU (by rw [FU_eq]; omega) (by rw [FU_eq]; omega)
      refine ⟨r, ?_, r2⟩
      show Option.bind (fc_shelvesInUse C) _ = _
      rw [show fc_shelvesInUse C = some r from r1]
      rfl
    · exact ⟨_, congrArg some e6, rfl⟩
    · exact ⟨_, congrArg some e7, rfl⟩
