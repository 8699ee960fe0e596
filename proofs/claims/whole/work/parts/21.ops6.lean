theorem t_nlt {a : Int32} {n : Nat} (h : n < 2147483648) : a < nI n ↔ a.toInt < n := by rw [t_lt, t_nI h]
-- risk
theorem op_risk {c : Nat} {C N : Mem} (h : Rel c C N) (a1 a2 a3 : Int32) : Sim c (fc_risk C a1 a2 a3) (fm_risk N a1 a2 a3) := by
  obtain ⟨⟨hS, hJ, hL, hF, hA, hP, hW, hV⟩, -⟩ := id h
  obtain ⟨⟨e0, b0⟩, ⟨e1, b1⟩, ⟨e2, b2⟩, ⟨e3, b3⟩, ⟨e5, b5⟩, ⟨e6, b6⟩, ⟨e7, b7⟩, ⟨e4, b4⟩, e8⟩ := id hS
  obtain ⟨l0, u0⟩ := id b0
  obtain ⟨l1, u1⟩ := id b1
  obtain ⟨l2, u2⟩ := id b2
  obtain ⟨l3, u3⟩ := id b3
  obtain ⟨l5, u5⟩ := id b5
  obtain ⟨l6, u6⟩ := id b6
  obtain ⟨l7, u7⟩ := id b7
  obtain ⟨l4, u4⟩ := id b4
  have L := LeapOK.of h
  by_cases hb : (a1.toInt < 0 ∨ (N.1 156 2).toInt ≤ a1.toInt) ∨ (a2.toInt < 0 ∨ (N.1 156 0).toInt ≤ a2.toInt) ∨ (a3.toInt < 0 ∨ 12 ≤ a3.toInt)
  · refine sim_2 h ?_ ?_
    · unfold fc_risk
      simp only [bind_eta, mlet_e, ilet_e, llet_e, jlet_e, shelf_0, below_0, within_0, hour_0, jetty_0, law_0, leaper_0, mshelf_0, mhour_0, mspot_0, mlevel_0, mfall_0, mjetty_0, mlaw_0, mleaper_0, ix_0, ix_1, ix_2, ix_3, ix_4, ix_5, ix_6, ix_7, ix_8, ix_9, e0, e2]
      try simp only [t_lt, t_le, Int32.reduceToInt, ix_0, ix_1, ix_2, ix_3, ix_4, ix_5, ix_6, ix_7, ix_8, ix_9]
      repeat' split
      all_goals first | rfl | (exfalso; omega)
    · unfold fm_risk
      simp only [bind_eta, mlet_e, ilet_e, llet_e, jlet_e, shelf_0, below_0, within_0, hour_0, jetty_0, law_0, leaper_0, mshelf_0, mhour_0, mspot_0, mlevel_0, mfall_0, mjetty_0, mlaw_0, mleaper_0, ix_0, ix_1, ix_2, ix_3, ix_4, ix_5, ix_6, ix_7, ix_8, ix_9]
      try simp only [t_lt, t_le, Int32.reduceToInt, ix_0, ix_1, ix_2, ix_3, ix_4, ix_5, ix_6, ix_7, ix_8, ix_9]
      repeat' split
      all_goals first | rfl | (exfalso; omega)
  · refine sim_i (r := rkx N (ix a1) (ix a2) (ix a3)) ?_ ?_ (Rel_next h)
    · unfold fc_risk
      rw [if_neg (by rw [leaper_0, e2]; omega), if_neg (by rw [jetty_0, e0]; omega), if_neg (by rw [hour_0]; omega), risk_c h (by omega) (by omega) (by omega) (by omega) (by omega) (by omega)]
      rfl
    · unfold fm_risk
      rw [if_neg (by rw [mleaper_0]; omega), if_neg (by rw [mjetty_0]; omega), if_neg (by rw [mhour_0]; omega), risk_m h (by omega) (by omega) (by omega) (by omega) (by omega) (by omega)]
      rfl
-- leg
theorem op_leg {c : Nat} {C N : Mem} (h : Rel c C N) (a1 a2 : Int32) : Sim c (fc_leg C a1 a2) (fm_leg N a1 a2) := by
  obtain ⟨⟨hS, hJ, hL, hF, hA, hP, hW, hV⟩, -⟩ := id h
  obtain ⟨⟨e0, b0⟩, ⟨e1, b1⟩, ⟨e2, b2⟩, ⟨e3, b3⟩, ⟨e5, b5⟩, ⟨e6, b6⟩, ⟨e7, b7⟩, ⟨e4, b4⟩, e8⟩ := id hS
  obtain ⟨l0, u0⟩ := id b0
  obtain ⟨l1, u1⟩ := id b1
  obtain ⟨l2, u2⟩ := id b2
  obtain ⟨l3, u3⟩ := id b3
  obtain ⟨l5, u5⟩ := id b5
  obtain ⟨l6, u6⟩ := id b6
  obtain ⟨l7, u7⟩ := id b7
  obtain ⟨l4, u4⟩ := id b4
  have L := LeapOK.of h
  by_cases hb : (a1.toInt < 0 ∨ 256 ≤ a1.toInt) ∨ (a2.toInt < 0 ∨ 256 ≤ a2.toInt)
  · refine sim_2 h ?_ ?_
    · unfold fc_leg
      simp only [bind_eta, mlet_e, ilet_e, llet_e, jlet_e, shelf_0, below_0, within_0, hour_0, jetty_0, law_0, leaper_0, mshelf_0, mhour_0, mspot_0, mlevel_0, mfall_0, mjetty_0, mlaw_0, mleaper_0, ix_0, ix_1, ix_2, ix_3, ix_4, ix_5, ix_6, ix_7, ix_8, ix_9]
      try simp only [t_lt, t_le, Int32.reduceToInt, ix_0, ix_1, ix_2, ix_3, ix_4, ix_5, ix_6, ix_7, ix_8, ix_9]
      repeat' split
      all_goals first | rfl | (exfalso; omega)
    · unfold fm_leg
      simp only [bind_eta, mlet_e, ilet_e, llet_e, jlet_e, shelf_0, below_0, within_0, hour_0, jetty_0, law_0, leaper_0, mshelf_0, mhour_0, mspot_0, mlevel_0, mfall_0, mjetty_0, mlaw_0, mleaper_0, ix_0, ix_1, ix_2, ix_3, ix_4, ix_5, ix_6, ix_7, ix_8, ix_9]
      try simp only [t_lt, t_le, Int32.reduceToInt, ix_0, ix_1, ix_2, ix_3, ix_4, ix_5, ix_6, ix_7, ix_8, ix_9]
      repeat' split
      all_goals first | rfl | (exfalso; omega)
  · refine sim_i (r := lgx N a1 a2 (lwv N 1)) ?_ ?_ (Rel_next h)
    · unfold fc_leg
      rw [if_neg (by rw [below_0]; simp only [Int32.reduceToInt]; omega), if_neg (by rw [below_0]; simp only [Int32.reduceToInt]; omega), L.sp]
      simp only [Option.bind_some]
      rw [L.gc _ _ L.lb.2.1.1]
      rfl
    · unfold fm_leg
      rw [if_neg (by rw [mspot_0]; omega), if_neg (by rw [mspot_0]; omega), L.gm1]
      rfl
-- rise
theorem op_rise {c : Nat} {C N : Mem} (h : Rel c C N) (a1 a2 : Int32) : Sim c (fc_rise C a1 a2) (fm_rise N a1 a2) := by
  obtain ⟨⟨hS, hJ, hL, hF, hA, hP, hW, hV⟩, -⟩ := id h
  obtain ⟨⟨e0, b0⟩, ⟨e1, b1⟩, ⟨e2, b2⟩, ⟨e3, b3⟩, ⟨e5, b5⟩, ⟨e6, b6⟩, ⟨e7, b7⟩, ⟨e4, b4⟩, e8⟩ := id hS
  obtain ⟨l0, u0⟩ := id b0
  obtain ⟨l1, u1⟩ := id b1
  obtain ⟨l2, u2⟩ := id b2
  obtain ⟨l3, u3⟩ := id b3
  obtain ⟨l5, u5⟩ := id b5
  obtain ⟨l6, u6⟩ := id b6
  obtain ⟨l7, u7⟩ := id b7
  obtain ⟨l4, u4⟩ := id b4
  have L := LeapOK.of h
  by_cases hb : (a1.toInt < 0 ∨ (N.1 156 0).toInt ≤ a1.toInt) ∨ (a2.toInt < -50 ∨ 50 < a2.toInt)
  · refine sim_i (r := -1002) (C' := wI C 118 0 (C.1 118 0 + 1)) (N' := wI N 158 2 (N.1 158 2 + 1)) ?_ ?_ (Rel_ref h (k := 0) (by omega))
    · unfold fc_rise
      by_cases q : a1.toInt < 0 ∨ (N.1 156 0).toInt ≤ a1.toInt
      · rw [if_pos (by rw [jetty_0, e0]; exact q), bad_2]; show some ((-1000 : Int32) + -2, _) = _; rw [show ((-1000 : Int32) + -2) = -1002 from by decide]
      · rw [if_neg (by rw [jetty_0, e0]; exact q), if_pos (by rw [within_0]; simp only [Int32.reduceToInt]; omega), bad_2]; show some ((-1000 : Int32) + -2, _) = _; rw [show ((-1000 : Int32) + -2) = -1002 from by decide]
    · unfold fm_rise
      by_cases q : a1.toInt < 0 ∨ (N.1 156 0).toInt ≤ a1.toInt
      · rw [if_pos (by rw [mjetty_0]; exact q), no_2]; rfl
      · rw [if_neg (by rw [mjetty_0]; exact q), if_pos (by rw [mlevel_0]; omega), no_2]; rfl
  · have hi := t_ix (a := a1) (by omega)
    refine sim_i (r := rsx (N.1 142 (ix a1)) (N.1 145 (ix a1)) a2) ?_ ?_ (Rel_next h)
    · unfold fc_rise
      rw [if_neg (by rw [jetty_0, e0]; omega), if_neg (by rw [within_0]; simp only [Int32.reduceToInt]; omega), gd_t (b_in (by omega) (by omega)), rsx_c hJ (by omega)]
    · unfold fm_rise
      rw [if_neg (by rw [mjetty_0]; omega), if_neg (by rw [mlevel_0]; omega), rsx_m hJ u0 (by omega) (by omega)]
      rfl
-- calm
theorem calm_L {c : Nat} {C N : Mem} (h : Rel c C N) {a j : Int32} (a1 : 0 ≤ a.toInt) (a2 : a.toInt < (N.1 156 2).toInt) (j1 : 0 ≤ j.toInt) (j2 : j.toInt < (N.1 156 0).toInt) : ∀ (n k f : Nat), k + n = 12 → f < 12 → ∀ F1 F2, n < F1 → n < F2 → ∃ r, fc_calm_L40 C a j F1 (nI f) (rkx N (ix a) (ix j) f) (nI k) = some (r, C) ∧ fm_calm_L28 N a j F2 (nI f) (nI k) = some (r, N) := by
  intro n
  induction n with
  | zero =>
    intro k f hk hf F1 F2 h1 h2
    obtain ⟨F1, rfl⟩ : ∃ m, F1 = m + 1 := ⟨F1 - 1, by omega⟩
    obtain ⟨F2, rfl⟩ : ∃ m, F2 = m + 1 := ⟨F2 - 1, by omega⟩
    have hk : k = 12 := by omega
    subst hk
    refine ⟨nI f, ?_, ?_⟩
    · rw [fc_calm_L40, if_pos (by decide)]
    · rw [fm_calm_L28, if_pos (by decide)]
  | succ n ih =>
    intro k f hk hf F1 F2 h1 h2
    obtain ⟨F1, rfl⟩ : ∃ m, F1 = m + 1 := ⟨F1 - 1, by omega⟩
    obtain ⟨F2, rfl⟩ : ∃ m, F2 = m + 1 := ⟨F2 - 1, by omega⟩
    have tk := t_nI (show k < 2147483648 by omega)
    have tf := t_nI (show f < 2147483648 by omega)
    have xk := ix_nI (show k < 2147483648 by omega)
    have xf := ix_nI (show f < 2147483648 by omega)
    rw [fc_calm_L40, fm_calm_L28, if_neg (by rw [t_le, tk]; simp only [Int32.reduceToInt]; omega), if_neg (by rw [t_le, tk]; simp only [Int32.reduceToInt]; omega), risk_c h a1 a2 j1 j2 (by omega) (by omega), risk_m h a1 a2 j1 j2 (by omega) (by omega), risk_m h a1 a2 j1 j2 (by omega) (by omega), xk, xf]
    simp only [Option.bind_some, jlet_e, nI_1]
    by_cases q : rkx N (ix a) (ix j) f ≤ rkx N (ix a) (ix j) k
    · rw [if_pos q, if_pos q]
      exact ih (k + 1) f (by omega) hf F1 F2 (by omega) (by omega)
    · rw [if_neg q, if_neg q]
      exact ih (k + 1) k (by omega) (by omega) F1 F2 (by omega) (by omega)
theorem op_calm {c : Nat} {C N : Mem} (h : Rel c C N) (a1 a2 : Int32) : Sim c (fc_calm C a1 a2) (fm_calm N a1 a2) := by
  obtain ⟨⟨hS, hJ, hL, hF, hA, hP, hW, hV⟩, -⟩ := id h
  obtain ⟨⟨e0, b0⟩, ⟨e1, b1⟩, ⟨e2, b2⟩, ⟨e3, b3⟩, ⟨e5, b5⟩, ⟨e6, b6⟩, ⟨e7, b7⟩, ⟨e4, b4⟩, e8⟩ := id hS
  obtain ⟨l0, u0⟩ := id b0
  obtain ⟨l1, u1⟩ := id b1
  obtain ⟨l2, u2⟩ := id b2
  obtain ⟨l3, u3⟩ := id b3
  obtain ⟨l5, u5⟩ := id b5
  obtain ⟨l6, u6⟩ := id b6
  obtain ⟨l7, u7⟩ := id b7
  obtain ⟨l4, u4⟩ := id b4
  have L := LeapOK.of h
  by_cases hb : (a1.toInt < 0 ∨ (N.1 156 2).toInt ≤ a1.toInt) ∨ (a2.toInt < 0 ∨ (N.1 156 0).toInt ≤ a2.toInt)
  · refine sim_2 h ?_ ?_
    · unfold fc_calm
      simp only [bind_eta, mlet_e, ilet_e, llet_e, jlet_e, shelf_0, below_0, within_0, hour_0, jetty_0, law_0, leaper_0, mshelf_0, mhour_0, mspot_0, mlevel_0, mfall_0, mjetty_0, mlaw_0, mleaper_0, ix_0, ix_1, ix_2, ix_3, ix_4, ix_5, ix_6, ix_7, ix_8, ix_9, e0, e2]
      try simp only [t_lt, t_le, Int32.reduceToInt, ix_0, ix_1, ix_2, ix_3, ix_4, ix_5, ix_6, ix_7, ix_8, ix_9]
      repeat' split
      all_goals first | rfl | (exfalso; omega)
    · unfold fm_calm
      simp only [bind_eta, mlet_e, ilet_e, llet_e, jlet_e, shelf_0, below_0, within_0, hour_0, jetty_0, law_0, leaper_0, mshelf_0, mhour_0, mspot_0, mlevel_0, mfall_0, mjetty_0, mlaw_0, mleaper_0, ix_0, ix_1, ix_2, ix_3, ix_4, ix_5, ix_6, ix_7, ix_8, ix_9]
      try simp only [t_lt, t_le, Int32.reduceToInt, ix_0, ix_1, ix_2, ix_3, ix_4, ix_5, ix_6, ix_7, ix_8, ix_9]
      repeat' split
      all_goals first | rfl | (exfalso; omega)
  · obtain ⟨r, r1, r2⟩ := calm_L h (a := a1) (j := a2) (by omega) (by omega) (by omega) (by omega) 11 1 0 (by omega) (by omega) FU FU (by rw [FU_eq]; omega) (by rw [FU_eq]; omega)
    refine sim_i (r := r) ?_ ?_ (Rel_next h)
    · unfold fc_calm
      rw [if_neg (by rw [leaper_0, e2]; omega), if_neg (by rw [jetty_0, e0]; omega), risk_c h (by omega) (by omega) (by omega) (by omega) (by decide) (by decide)]
      exact r1
    · unfold fm_calm
      rw [if_neg (by rw [mleaper_0]; omega), if_neg (by rw [mjetty_0]; omega)]
      exact r2
-- safest
theorem safest_L {c : Nat} {C N : Mem} (h : Rel c C N) {j q : Int32} (j1 : 0 ≤ j.toInt) (j2 : j.toInt < (N.1 156 0).toInt) (q1 : 0 ≤ q.toInt) (q2 : q.toInt < 12) {m : Nat} (hm : (N.1 156 2).toInt = m) : ∀ (n k f : Nat), k + n = m → f < m → ∀ F1 F2, n < F1 → n < F2 → ∃ r, fc_safest_L56 C j q F1 (nI f) (rkx N f (ix j) (ix q)) (nI k) = some (r, C) ∧ fm_safest_L44 N j q F2 (nI f) (nI k) = some (r, N) := by
  obtain ⟨⟨hS, hJ, hL, hF, hA, hP, hW, hV⟩, -⟩ := id h
  obtain ⟨⟨e0, b0⟩, ⟨e1, b1⟩, ⟨e2, b2⟩, ⟨e3, b3⟩, ⟨e5, b5⟩, ⟨e6, b6⟩, ⟨e7, b7⟩, ⟨e4, b4⟩, e8⟩ := id hS
  obtain ⟨l0, u0⟩ := id b0
  obtain ⟨l1, u1⟩ := id b1
  obtain ⟨l2, u2⟩ := id b2
  obtain ⟨l3, u3⟩ := id b3
  obtain ⟨l5, u5⟩ := id b5
  obtain ⟨l6, u6⟩ := id b6
  obtain ⟨l7, u7⟩ := id b7
  obtain ⟨l4, u4⟩ := id b4
  have L := LeapOK.of h
  intro n
  induction n with
  | zero =>
    intro k f hk hf F1 F2 h1 h2
    obtain ⟨F1, rfl⟩ : ∃ m, F1 = m + 1 := ⟨F1 - 1, by omega⟩
    obtain ⟨F2, rfl⟩ : ∃ m, F2 = m + 1 := ⟨F2 - 1, by omega⟩
    have tk := t_nI (show k < 2147483648 by omega)
    refine ⟨nI f, ?_, ?_⟩
    · rw [fc_safest_L56, if_pos (by rw [t_le, e2, tk]; omega)]
    · rw [fm_safest_L44, if_pos (by rw [t_le, ix_2, tk]; omega)]
  | succ n ih =>
    intro k f hk hf F1 F2 h1 h2
    obtain ⟨F1, rfl⟩ : ∃ m, F1 = m + 1 := ⟨F1 - 1, by omega⟩
    obtain ⟨F2, rfl⟩ : ∃ m, F2 = m + 1 := ⟨F2 - 1, by omega⟩
    have tk := t_nI (show k < 2147483648 by omega)
    have tf := t_nI (show f < 2147483648 by omega)
    have xk := ix_nI (show k < 2147483648 by omega)
    have xf := ix_nI (show f < 2147483648 by omega)
    rw [fc_safest_L56, fm_safest_L44, if_neg (by rw [t_le, e2, tk]; omega), if_neg (by rw [t_le, ix_2, tk]; omega), risk_c h (by omega) (by omega) j1 j2 q1 q2, risk_m h (by omega) (by omega) j1 j2 q1 q2, risk_m h (by omega) (by omega) j1 j2 q1 q2, xk, xf]
    simp only [Option.bind_some, jlet_e, nI_1]
    by_cases z : rkx N f (ix j) (ix q) ≤ rkx N k (ix j) (ix q)
    · rw [if_pos z, if_pos z]
      exact ih (k + 1) f (by omega) hf F1 F2 (by omega) (by omega)
    · rw [if_neg z, if_neg z]
      exact ih (k + 1) k (by omega) (by omega) F1 F2 (by omega) (by omega)
theorem op_safest {c : Nat} {C N : Mem} (h : Rel c C N) (a1 a2 : Int32) : Sim c (fc_safest C a1 a2) (fm_safest N a1 a2) := by
  obtain ⟨⟨hS, hJ, hL, hF, hA, hP, hW, hV⟩, -⟩ := id h
  obtain ⟨⟨e0, b0⟩, ⟨e1, b1⟩, ⟨e2, b2⟩, ⟨e3, b3⟩, ⟨e5, b5⟩, ⟨e6, b6⟩, ⟨e7, b7⟩, ⟨e4, b4⟩, e8⟩ := id hS
  obtain ⟨l0, u0⟩ := id b0
  obtain ⟨l1, u1⟩ := id b1
  obtain ⟨l2, u2⟩ := id b2
  obtain ⟨l3, u3⟩ := id b3
  obtain ⟨l5, u5⟩ := id b5
  obtain ⟨l6, u6⟩ := id b6
  obtain ⟨l7, u7⟩ := id b7
  obtain ⟨l4, u4⟩ := id b4
  have L := LeapOK.of h
  by_cases hb : (a1.toInt < 0 ∨ (N.1 156 0).toInt ≤ a1.toInt) ∨ (a2.toInt < 0 ∨ 12 ≤ a2.toInt)
  · refine sim_2 h ?_ ?_
    · unfold fc_safest
      simp only [bind_eta, mlet_e, ilet_e, llet_e, jlet_e, shelf_0, below_0, within_0, hour_0, jetty_0, law_0, leaper_0, mshelf_0, mhour_0, mspot_0, mlevel_0, mfall_0, mjetty_0, mlaw_0, mleaper_0, ix_0, ix_1, ix_2, ix_3, ix_4, ix_5, ix_6, ix_7, ix_8, ix_9, e0]
      try simp only [t_lt, t_le, Int32.reduceToInt, ix_0, ix_1, ix_2, ix_3, ix_4, ix_5, ix_6, ix_7, ix_8, ix_9]
      repeat' split
      all_goals first | rfl | (exfalso; omega)
    · unfold fm_safest
      simp only [bind_eta, mlet_e, ilet_e, llet_e, jlet_e, shelf_0, below_0, within_0, hour_0, jetty_0, law_0, leaper_0, mshelf_0, mhour_0, mspot_0, mlevel_0, mfall_0, mjetty_0, mlaw_0, mleaper_0, ix_0, ix_1, ix_2, ix_3, ix_4, ix_5, ix_6, ix_7, ix_8, ix_9]
      try simp only [t_lt, t_le, Int32.reduceToInt, ix_0, ix_1, ix_2, ix_3, ix_4, ix_5, ix_6, ix_7, ix_8, ix_9]
      repeat' split
      all_goals first | rfl | (exfalso; omega)
  · by_cases hz : N.1 156 2 = 0
    · refine sim_5 h ?_ ?_
      · unfold fc_safest
        rw [if_neg (by rw [jetty_0, e0]; omega), if_neg (by rw [hour_0]; omega), e2, if_pos hz, bind_eta]
      · unfold fm_safest
        rw [if_neg (by rw [mjetty_0]; omega), if_neg (by rw [mhour_0]; omega), ix_2, if_pos hz, bind_eta]
    · have hz2 : (N.1 156 2).toInt ≠ 0 := fun q => hz (t_eq.mpr q)
      obtain ⟨m, hm⟩ : ∃ m : Nat, (N.1 156 2).toInt = m := ⟨ix (N.1 156 2), (t_ix l2).symm⟩
      obtain ⟨r, r1, r2⟩ := safest_L h (j := a1) (q := a2) (by omega) (by omega) (by omega) (by omega) hm (m - 1) 1 0 (by omega) (by omega) FU FU (by rw [FU_eq]; omega) (by rw [FU_eq]; omega)
      refine sim_i (r := r) ?_ ?_ (Rel_next h)
      · unfold fc_safest
        rw [if_neg (by rw [jetty_0, e0]; omega), if_neg (by rw [hour_0]; omega), e2, if_neg hz, risk_c h (by decide) (by simp only [Int32.reduceToInt]; omega) (by omega) (by omega) (by omega) (by omega)]
        exact r1
      · unfold fm_safest
        rw [if_neg (by rw [mjetty_0]; omega), if_neg (by rw [mhour_0]; omega), ix_2, if_neg hz]
        exact r2
-- weeks
theorem lev_w {N : Mem} (b5 : bd (N.1 156 5) (-50) 50) {w v : Int32} (hw : bd w 0 20) (hv : bd v 1 20) : bd (N.1 156 5 - w * v) (-1000) 1000 := by
  obtain ⟨l1, l2⟩ := b5
  obtain ⟨w1, w2⟩ := hw
  obtain ⟨v1, v2⟩ := hv
  have m1 : 0 ≤ w.toInt * v.toInt := Int.mul_nonneg w1 (by omega)
  have m2 : w.toInt * v.toInt ≤ 20 * 20 := Int.mul_le_mul w2 v2 (by omega) (by omega)
  have t1 : (w * v).toInt = w.toInt * v.toInt := by rw [t_mul] <;> omega
  unfold bd
  rw [t_sub] <;> rw [t1] <;> omega
theorem week_L {c : Nat} {C N : Mem} (h : Rel c C N) {j v : Int32} (j1 : 0 ≤ j.toInt) (j2 : j.toInt < (N.1 156 0).toInt) (hv : bd v 1 20) : ∀ (n k : Nat), k + n = 21 → ∀ F1 F2, n < F1 → n < F2 → ∃ r, fLake_firstWeekOut_L2 C j v F1 (nI k) = some r ∧ fm_week_L25 N j v F2 (nI k) = some (r, N) ∧ ((r = -1 ∧ ∀ w, k ≤ w → w ≤ 20 → outx N (ix j) (N.1 156 5 - nI w * v) = 0) ∨ ∃ w : Nat, r = nI w ∧ k ≤ w ∧ w ≤ 20 ∧ outx N (ix j) (N.1 156 5 - nI w * v) ≠ 0 ∧ ∀ u, k ≤ u → u < w → outx N (ix j) (N.1 156 5 - nI u * v) = 0) := by
  obtain ⟨⟨hS, hJ, hL, hF, hA, hP, hW, hV⟩, -⟩ := id h
  obtain ⟨⟨e0, b0⟩, ⟨e1, b1⟩, ⟨e2, b2⟩, ⟨e3, b3⟩, ⟨e5, b5⟩, ⟨e6, b6⟩, ⟨e7, b7⟩, ⟨e4, b4⟩, e8⟩ := id hS
  obtain ⟨l0, u0⟩ := id b0
  obtain ⟨l1, u1⟩ := id b1
  obtain ⟨l2, u2⟩ := id b2
  obtain ⟨l3, u3⟩ := id b3
  obtain ⟨l5, u5⟩ := id b5
  obtain ⟨l6, u6⟩ := id b6
  obtain ⟨l7, u7⟩ := id b7
  obtain ⟨l4, u4⟩ := id b4
  have L := LeapOK.of h
  intro n
  induction n with
  | zero =>
    intro k hk F1 F2 h1 h2
    obtain ⟨F1, rfl⟩ : ∃ m, F1 = m + 1 := ⟨F1 - 1, by omega⟩
    obtain ⟨F2, rfl⟩ : ∃ m, F2 = m + 1 := ⟨F2 - 1, by omega⟩
    have hk : k = 21 := by omega
    subst hk
    refine ⟨-1, ?_, ?_, Or.inl ⟨rfl, fun w a b => by omega⟩⟩
    · rw [fLake_firstWeekOut_L2, if_pos (by decide)]
    · rw [fm_week_L25, if_pos (by decide)]
  | succ n ih =>
    intro k hk F1 F2 h1 h2
    obtain ⟨F1, rfl⟩ : ∃ m, F1 = m + 1 := ⟨F1 - 1, by omega⟩
    obtain ⟨F2, rfl⟩ : ∃ m, F2 = m + 1 := ⟨F2 - 1, by omega⟩
    have tk := t_nI (show k < 2147483648 by omega)
    have ij := t_ix j1
    have hk2 : ¬ (20 : Int32) < nI k := by rw [t_lt, tk]; simp only [Int32.reduceToInt]; omega
    rw [fLake_firstWeekOut_L2, fm_week_L25, if_neg hk2, if_neg hk2, gd_t (b_in j1 (by omega)), ix_5, e5, outx_c hJ e6 (by omega), L.om j1 j2 (lev_w b5 ⟨by omega, by omega⟩ hv)]
    simp only [Option.bind_some, nI_1]
    by_cases q : outx N (ix j) (N.1 156 5 - nI k * v) = 0
    · rw [if_pos q, if_pos q]
      obtain ⟨r, r1, r2, r3⟩ := ih (k + 1) (by omega) F1 F2 (by omega) (by omega)
      refine ⟨r, r1, r2, ?_⟩
      rcases r3 with ⟨a, b⟩ | ⟨w, a, b, d, e, f⟩
      · refine Or.inl ⟨a, fun w x y => ?_⟩
        by_cases z : w = k
        · rw [z]; exact q
        · exact b w (by omega) y
      · refine Or.inr ⟨w, a, by omega, d, e, fun u x y => ?_⟩
        by_cases z : u = k
        · rw [z]; exact q
        · exact f u (by omega) y
    · rw [if_neg q, if_neg q]
      exact ⟨nI k, rfl, rfl, Or.inr ⟨k, rfl, by omega, by omega, q, fun u x y => by omega⟩⟩
theorem op_week {c : Nat} {C N : Mem} (h : Rel c C N) (a1 a2 : Int32) : Sim c (fc_week C a1 a2) (fm_week N a1 a2) := by
  obtain ⟨⟨hS, hJ, hL, hF, hA, hP, hW, hV⟩, -⟩ := id h
  obtain ⟨⟨e0, b0⟩, ⟨e1, b1⟩, ⟨e2, b2⟩, ⟨e3, b3⟩, ⟨e5, b5⟩, ⟨e6, b6⟩, ⟨e7, b7⟩, ⟨e4, b4⟩, e8⟩ := id hS
  obtain ⟨l0, u0⟩ := id b0
  obtain ⟨l1, u1⟩ := id b1
  obtain ⟨l2, u2⟩ := id b2
  obtain ⟨l3, u3⟩ := id b3
  obtain ⟨l5, u5⟩ := id b5
  obtain ⟨l6, u6⟩ := id b6
  obtain ⟨l7, u7⟩ := id b7
  obtain ⟨l4, u4⟩ := id b4
  have L := LeapOK.of h
  by_cases hb : (a1.toInt < 0 ∨ (N.1 156 0).toInt ≤ a1.toInt) ∨ (a2.toInt < 1 ∨ 20 < a2.toInt)
  · refine sim_2 h ?_ ?_
    · unfold fc_week
      simp only [bind_eta, mlet_e, ilet_e, llet_e, jlet_e, shelf_0, below_0, within_0, hour_0, jetty_0, law_0, leaper_0, mshelf_0, mhour_0, mspot_0, mlevel_0, mfall_0, mjetty_0, mlaw_0, mleaper_0, ix_0, ix_1, ix_2, ix_3, ix_4, ix_5, ix_6, ix_7, ix_8, ix_9, e0]
      try simp only [t_lt, t_le, Int32.reduceToInt, ix_0, ix_1, ix_2, ix_3, ix_4, ix_5, ix_6, ix_7, ix_8, ix_9]
      repeat' split
      all_goals first | rfl | (exfalso; omega)
    · unfold fm_week
      simp only [bind_eta, mlet_e, ilet_e, llet_e, jlet_e, shelf_0, below_0, within_0, hour_0, jetty_0, law_0, leaper_0, mshelf_0, mhour_0, mspot_0, mlevel_0, mfall_0, mjetty_0, mlaw_0, mleaper_0, ix_0, ix_1, ix_2, ix_3, ix_4, ix_5, ix_6, ix_7, ix_8, ix_9]
      try simp only [t_lt, t_le, Int32.reduceToInt, ix_0, ix_1, ix_2, ix_3, ix_4, ix_5, ix_6, ix_7, ix_8, ix_9]
      repeat' split
      all_goals first | rfl | (exfalso; omega)
  · obtain ⟨r, r1, r2, -⟩ := week_L h (j := a1) (v := a2) (by omega) (by omega) ⟨by omega, by omega⟩ 21 0 (by omega) FU FU (by rw [FU_eq]; omega) (by rw [FU_eq]; omega)
    refine sim_i (r := r) ?_ ?_ (Rel_next h)
    · unfold fc_week fLake_firstWeekOut
      rw [if_neg (by rw [jetty_0, e0]; omega), if_neg (by rw [within_0]; simp only [Int32.reduceToInt]; omega), show (0 : Int32) = nI 0 from rfl, r1]
      rfl
    · unfold fm_week
      rw [if_neg (by rw [mjetty_0]; omega), if_neg (by rw [mfall_0]; omega)]
      exact r2
-- outs
theorem outs_L {c : Nat} {C N : Mem} (h : Rel c C N) {w v : Int32} (hw : bd w 0 20) (hv : bd v 1 20) {m : Nat} (hm : (N.1 156 0).toInt = m) : ∀ (n k : Nat) (x : Int32), k + n = m → ∀ F1 F2, n < F1 → n < F2 → ∃ r, fc_outs_L32 C w v F1 x (nI k) = some (r, C) ∧ fm_outs_L30 N w v F2 x (nI k) = some (r, N) := by
  obtain ⟨⟨hS, hJ, hL, hF, hA, hP, hW, hV⟩, -⟩ := id h
  obtain ⟨⟨e0, b0⟩, ⟨e1, b1⟩, ⟨e2, b2⟩, ⟨e3, b3⟩, ⟨e5, b5⟩, ⟨e6, b6⟩, ⟨e7, b7⟩, ⟨e4, b4⟩, e8⟩ := id hS
  obtain ⟨l0, u0⟩ := id b0
  obtain ⟨l1, u1⟩ := id b1
  obtain ⟨l2, u2⟩ := id b2
  obtain ⟨l3, u3⟩ := id b3
  obtain ⟨l5, u5⟩ := id b5
  obtain ⟨l6, u6⟩ := id b6
  obtain ⟨l7, u7⟩ := id b7
  obtain ⟨l4, u4⟩ := id b4
  have L := LeapOK.of h
  intro n
  induction n with
  | zero =>
    intro k x hk F1 F2 h1 h2
    obtain ⟨F1, rfl⟩ : ∃ m, F1 = m + 1 := ⟨F1 - 1, by omega⟩
    obtain ⟨F2, rfl⟩ : ∃ m, F2 = m + 1 := ⟨F2 - 1, by omega⟩
    have tk := t_nI (show k < 2147483648 by omega)
    refine ⟨x, ?_, ?_⟩
    · rw [fc_outs_L32, if_pos (by rw [t_le, e0, tk]; omega)]
    · rw [fm_outs_L30, if_pos (by rw [t_le, ix_0, tk]; omega)]
  | succ n ih =>
    intro k x hk F1 F2 h1 h2
    obtain ⟨F1, rfl⟩ : ∃ m, F1 = m + 1 := ⟨F1 - 1, by omega⟩
    obtain ⟨F2, rfl⟩ : ∃ m, F2 = m + 1 := ⟨F2 - 1, by omega⟩
    have tk := t_nI (show k < 2147483648 by omega)
    have xk := ix_nI (show k < 2147483648 by omega)
    rw [fc_outs_L32, fm_outs_L30, if_neg (by rw [t_le, e0, tk]; omega), if_neg (by rw [t_le, ix_0, tk]; omega), gd_t (b_in (by omega) (by omega)), ix_5, e5, xk, outx_c hJ e6 (by omega), L.om (by omega) (by omega) (lev_w b5 hw hv), xk]
    simp only [Option.bind_some, jlet_e, ilet_e, nI_1]
    by_cases q : outx N k (N.1 156 5 - w * v) = 0
    · rw [if_pos q, if_pos q]
      exact ih (k + 1) x (by omega) F1 F2 (by omega) (by omega)
    · rw [if_neg q, if_neg q]
      exact ih (k + 1) _ (by omega) F1 F2 (by omega) (by omega)
theorem op_outs {c : Nat} {C N : Mem} (h : Rel c C N) (a1 a2 : Int32) : Sim c (fc_outs C a1 a2) (fm_outs N a1 a2) := by
  obtain ⟨⟨hS, hJ, hL, hF, hA, hP, hW, hV⟩, -⟩ := id h
  obtain ⟨⟨e0, b0⟩, ⟨e1, b1⟩, ⟨e2, b2⟩, ⟨e3, b3⟩, ⟨e5, b5⟩, ⟨e6, b6⟩, ⟨e7, b7⟩, ⟨e4, b4⟩, e8⟩ := id hS
  obtain ⟨l0, u0⟩ := id b0
  obtain ⟨l1, u1⟩ := id b1
  obtain ⟨l2, u2⟩ := id b2
  obtain ⟨l3, u3⟩ := id b3
  obtain ⟨l5, u5⟩ := id b5
  obtain ⟨l6, u6⟩ := id b6
  obtain ⟨l7, u7⟩ := id b7
  obtain ⟨l4, u4⟩ := id b4
  have L := LeapOK.of h
  by_cases hb : (a1.toInt < 0 ∨ 20 < a1.toInt) ∨ (a2.toInt < 1 ∨ 20 < a2.toInt)
  · refine sim_2 h ?_ ?_
    · unfold fc_outs
      simp only [bind_eta, mlet_e, ilet_e, llet_e, jlet_e, shelf_0, below_0, within_0, hour_0, jetty_0, law_0, leaper_0, mshelf_0, mhour_0, mspot_0, mlevel_0, mfall_0, mjetty_0, mlaw_0, mleaper_0, ix_0, ix_1, ix_2, ix_3, ix_4, ix_5, ix_6, ix_7, ix_8, ix_9]
      try simp only [t_lt, t_le, Int32.reduceToInt, ix_0, ix_1, ix_2, ix_3, ix_4, ix_5, ix_6, ix_7, ix_8, ix_9]
      repeat' split
      all_goals first | rfl | (exfalso; omega)
    · unfold fm_outs
      simp only [bind_eta, mlet_e, ilet_e, llet_e, jlet_e, shelf_0, below_0, within_0, hour_0, jetty_0, law_0, leaper_0, mshelf_0, mhour_0, mspot_0, mlevel_0, mfall_0, mjetty_0, mlaw_0, mleaper_0, ix_0, ix_1, ix_2, ix_3, ix_4, ix_5, ix_6, ix_7, ix_8, ix_9]
      try simp only [t_lt, t_le, Int32.reduceToInt, ix_0, ix_1, ix_2, ix_3, ix_4, ix_5, ix_6, ix_7, ix_8, ix_9]
      repeat' split
      all_goals first | rfl | (exfalso; omega)
  · obtain ⟨m, hm⟩ : ∃ m : Nat, (N.1 156 0).toInt = m := ⟨ix (N.1 156 0), (t_ix l0).symm⟩
    obtain ⟨r, r1, r2⟩ := outs_L h (w := a1) (v := a2) ⟨by omega, by omega⟩ ⟨by omega, by omega⟩ hm m 0 0 (by omega) FU FU (by rw [FU_eq]; omega) (by rw [FU_eq]; omega)
    refine sim_i (r := r) ?_ ?_ (Rel_next h)
    · unfold fc_outs
      rw [if_neg (by rw [within_0]; simp only [Int32.reduceToInt]; omega), if_neg (by rw [within_0]; simp only [Int32.reduceToInt]; omega)]
      exact r1
    · unfold fm_outs
      rw [if_neg (by rw [t_lt]; simp only [Int32.reduceToInt]; omega), if_neg (by rw [t_lt]; simp only [Int32.reduceToInt]; omega), if_neg (by rw [mfall_0]; omega)]
      exact r2
