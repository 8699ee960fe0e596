theorem lrn {c : Nat} {C N : Mem} (hc : c ≤ 64) (hA : NA c C N) (u2 : (N.1 156 2).toInt ≤ 6) {a1 : Int32} (h1 : 0 ≤ a1.toInt) (h2 : a1.toInt < (N.1 156 2).toInt) : ∃ r, fLeaper_learntSkill C (ix a1) = some r ∧ fm_learntBy N a1 = some r ∧ bd r 0 99 := by
  have hi := t_ix h1
  have hin : inb a1 6 := b_in h1 (by omega)
  obtain ⟨n, hn⟩ : ∃ n, n = ix a1 := ⟨_, rfl⟩
  obtain ⟨-, ⟨k2, k3, k4⟩, k5, k6, k7⟩ := hA (ix a1) (by omega)
  rw [← hn] at hi k2 k3 k4 k5 k6 k7
  have t1 : (N.1 150 n + 1).toInt = (N.1 150 n).toInt + 1 := by rw [t_add] <;> simp only [Int32.reduceToInt] <;> omega
  have t2 : (N.1 150 n - N.1 151 n).toInt = (N.1 150 n).toInt - (N.1 151 n).toInt := by rw [t_sub] <;> omega
  have t3 : ((100 : Int32) * (N.1 150 n - N.1 151 n)).toInt = 100 * ((N.1 150 n).toInt - (N.1 151 n).toInt) := by rw [t_mul] <;> rw [t2] <;> simp only [Int32.reduceToInt] <;> omega
  have t4 : ((100 : Int32) * (N.1 150 n - N.1 151 n) + 50).toInt = 100 * ((N.1 150 n).toInt - (N.1 151 n).toInt) + 50 := by rw [t_add] <;> rw [t3] <;> simp only [Int32.reduceToInt] <;> omega
  have h0 : ¬ (N.1 150 n + 1) = 0 := fun q => by
    have := t_eq.mp q
    rw [t1] at this
    simp only [Int32.reduceToInt] at this
    omega
  obtain ⟨v, hv⟩ : ∃ v, v = ((100 : Int32) * (N.1 150 n - N.1 151 n) + 50) / (N.1 150 n + 1) := ⟨_, rfl⟩
  have hv0 : 0 ≤ v.toInt := by
    rw [hv, t_div (by omega) (by omega)]
    exact Int.ediv_nonneg (by omega) (by omega)
  refine ⟨if v ≤ 99 then v else 99, ?_, ?_, ?_⟩
  · unfold fLeaper_learntSkill fc_cutBy
    rw [← hn, k2, k5, if_pos (by rw [t_le, t1]; simp only [Int32.reduceToInt]; omega), gd_t h0, ← hv]
    simp only [Option.bind_some]
    congr 1
    by_cases q : v ≤ 99
    · rw [if_pos q]
      by_cases q2 : v < 99
      · rw [if_pos q2]
      · rw [if_neg q2, t_eq]
        rw [t_le] at q
        rw [t_lt] at q2
        omega
    · rw [if_neg q, if_neg]
      rw [t_le] at q
      rw [t_lt]
      omega
  · unfold fm_learntBy
    rw [gd_t hin, gd_t hin, gd_t hin, ← hn, gd_t h0, ilet_e, ← hv]
    split <;> rfl
  · split
    · rename_i q
      rw [t_le] at q
      exact ⟨hv0, q⟩
    · exact ⟨by decide, by decide⟩
-- learnt
theorem op_learnt {c : Nat} {C N : Mem} (hc : c < 64) (h : Rel c C N) (a1 : Int32) : Sim c (fc_learnt C a1) (fm_learnt N a1) := by
  obtain ⟨⟨hS, hJ, hL, hF, hA, hP, hW, hV⟩, -⟩ := id h
  obtain ⟨⟨e0, b0⟩, ⟨e1, b1⟩, ⟨e2, b2⟩, ⟨e3, b3⟩, ⟨e5, b5⟩, ⟨e6, b6⟩, ⟨e7, b7⟩, ⟨e4, b4⟩, e8⟩ := id hS
  obtain ⟨l0, u0⟩ := id b0
  obtain ⟨l1, u1⟩ := id b1
  obtain ⟨l2, u2⟩ := id b2
  obtain ⟨l3, u3⟩ := id b3
  obtain ⟨l5, u5⟩ := id b5
  obtain ⟨l6, u6⟩ := id b6
  obtain ⟨l7, u7⟩ := id b7
  obtain ⟨l4, u4⟩ := id b4
  by_cases hb : a1.toInt < 0 ∨ (N.1 156 2).toInt ≤ a1.toInt
  · refine sim_2 h ?_ ?_
    · unfold fc_learnt; rw [if_pos (by rw [leaper_0, e2]; exact hb), bind_eta]
    · unfold fm_learnt; rw [if_pos (by rw [mleaper_0]; exact hb), bind_eta]
  · obtain ⟨r, r1, r2, r3⟩ := lrn (by omega) hA u2 (a1 := a1) (by omega) (by omega)
    refine sim_i (r := r) ?_ ?_ (Rel_next h)
    · unfold fc_learnt; rw [if_neg (by rw [leaper_0, e2]; exact hb), gd_t (b_in (by omega) (by omega)), r1]; rfl
    · unfold fm_learnt; rw [if_neg (by rw [mleaper_0]; exact hb), r2]; rfl
-- learn
theorem op_learn {c : Nat} {C N : Mem} (hc : c < 64) (h : Rel c C N) (a1 : Int32) : Sim c (fc_learn C a1) (fm_learn N a1) := by
  obtain ⟨⟨hS, hJ, hL, hF, hA, hP, hW, hV⟩, -⟩ := id h
  obtain ⟨⟨e0, b0⟩, ⟨e1, b1⟩, ⟨e2, b2⟩, ⟨e3, b3⟩, ⟨e5, b5⟩, ⟨e6, b6⟩, ⟨e7, b7⟩, ⟨e4, b4⟩, e8⟩ := id hS
  obtain ⟨l0, u0⟩ := id b0
  obtain ⟨l1, u1⟩ := id b1
  obtain ⟨l2, u2⟩ := id b2
  obtain ⟨l3, u3⟩ := id b3
  obtain ⟨l5, u5⟩ := id b5
  obtain ⟨l6, u6⟩ := id b6
  obtain ⟨l7, u7⟩ := id b7
  obtain ⟨l4, u4⟩ := id b4
  by_cases hb : a1.toInt < 0 ∨ (N.1 156 2).toInt ≤ a1.toInt
  · refine sim_2 h ?_ ?_
    · unfold fc_learn; rw [if_pos (by rw [leaper_0, e2]; exact hb), bind_eta]
    · unfold fm_learn; rw [if_pos (by rw [mleaper_0]; exact hb), bind_eta]
  · obtain ⟨r, r1, r2, r3⟩ := lrn (by omega) hA u2 (a1 := a1) (by omega) (by omega)
    have hi := t_ix (a := a1) (by omega)
    have hin : inb a1 6 := b_in (by omega) (by omega)
    obtain ⟨n, hn⟩ : ∃ n, n = ix a1 := ⟨_, rfl⟩
    obtain ⟨⟨k0, k1⟩, k2⟩ := hA (ix a1) (by omega)
    rw [← hn] at hi k0 k1 k2 r1
    apply sim_i (r := N.1 149 n) (C' := wI C (n + 58) 0 r) (N' := wI N 149 n r)
    · unfold fc_learn; rw [if_neg (by rw [leaper_0, e2]; exact hb), gd_t hin, ilet_e, ← hn, r1, k0]; rfl
    · unfold fm_learn; rw [if_neg (by rw [mleaper_0]; exact hb), gd_t hin, ilet_e, r2, ← hn]
      simp only [Option.bind_some, gd_t hin, mlet_e]
    · refine Rel_RN h (by repeat (first | exact same_r | refine same_wI' ?_ (by omega))) (by repeat (first | exact same_r | refine same_wI' ?_ (by omega))) (by repeat (first | exact same_r | refine same_wI' ?_ (by omega))) (by repeat (first | rfl | refine row_wI' ?_ (by omega))) (by repeat (first | exact same_r | refine same_wI' ?_ (by omega))) (leI (by repeat (first | rfl | refine el_wI' ?_ (by omega)))) ⟨NS_fr hS (by repeat (first | rfl | refine row_wI' ?_ (by omega))) (by repeat (first | rfl | refine row_wI' ?_ (by omega))), NJ_fr hJ u0 (by repeat (first | rfl | refine el_wI' ?_ (by omega))) (by repeat (first | exact same_r | refine same_wI' ?_ (by omega))) (by repeat (first | exact same_r | refine same_wI' ?_ (by omega))), NL_fr hL u1 (by repeat (first | rfl | refine el_wI' ?_ (by omega))) (by repeat (first | exact same_r | refine same_wI' ?_ (by omega))) (by repeat (first | rfl | refine row_wI' ?_ (by omega))), NF_fr hF (by repeat (first | rfl | refine row_wI' ?_ (by omega))), ?_, NP_fr hP (by repeat (first | rfl | refine el_wI' ?_ (by omega))) (by repeat (first | rfl | refine row_wI' ?_ (by omega))) (by repeat (first | rfl | refine row_wI' ?_ (by omega))) (by repeat (first | rfl | refine row_wI' ?_ (by omega))) (by repeat (first | rfl | refine row_wI' ?_ (by omega))), NW_fr hW (by repeat (first | rfl | refine row_wI' ?_ (by omega))) (by repeat (first | rfl | refine row_wI' ?_ (by omega))), NV_fr hV (by omega) (by repeat (first | rfl | refine row_wI' ?_ (by omega))) (by repeat (first | rfl | refine row_wI' ?_ (by omega))) (by repeat (first | rfl | refine row_wI' ?_ (by omega))) (fun j _ => (by repeat (first | rfl | refine el_wI' ?_ (by omega)))) (leI (by repeat (first | rfl | refine el_wI' ?_ (by omega)))) (leI (by repeat (first | rfl | refine el_wI' ?_ (by omega))))⟩
      intro j hj
      rw [show (wI N 149 n r).1 156 2 = N.1 156 2 from (by repeat (first | rfl | refine el_wI' ?_ (by omega)))] at hj
      by_cases e : j = n
      · subst e
        simp [wI_1]
        exact ⟨r3, ⟨k2.1.1, k2.1.2.1, by have := k2.1.2.2; omega⟩, k2.2⟩
      · obtain ⟨m0, m1, m2⟩ := hA j hj
        simp [wI_1, e]
        exact ⟨m0, ⟨m1.1, m1.2.1, by have := m1.2.2; omega⟩, m2⟩
-- leaperOf
theorem op_leaperOf {c : Nat} {C N : Mem} (h : Rel c C N) (a1 a2 : Int32) : Sim c (fc_leaperOf C a1 a2) (fm_leaperOf N a1 a2) := by
  obtain ⟨⟨hS, hJ, hL, hF, hA, hP, hW, hV⟩, -⟩ := id h
  obtain ⟨⟨e0, b0⟩, ⟨e1, b1⟩, ⟨e2, b2⟩, ⟨e3, b3⟩, ⟨e5, b5⟩, ⟨e6, b6⟩, ⟨e7, b7⟩, ⟨e4, b4⟩, e8⟩ := id hS
  obtain ⟨l0, u0⟩ := id b0
  obtain ⟨l1, u1⟩ := id b1
  obtain ⟨l2, u2⟩ := id b2
  obtain ⟨l3, u3⟩ := id b3
  obtain ⟨l5, u5⟩ := id b5
  obtain ⟨l6, u6⟩ := id b6
  obtain ⟨l7, u7⟩ := id b7
  obtain ⟨l4, u4⟩ := id b4
  by_cases hb : (a1.toInt < 0 ∨ (N.1 156 2).toInt ≤ a1.toInt) ∨ (a2.toInt < 0 ∨ 2 < a2.toInt)
  · refine sim_2 h ?_ ?_
    · unfold fc_leaperOf
      by_cases q : a1.toInt < 0 ∨ (N.1 156 2).toInt ≤ a1.toInt
      · rw [if_pos (by rw [leaper_0, e2]; exact q), bind_eta]
      · rw [if_neg (by rw [leaper_0, e2]; exact q), if_neg (by rw [t_eq]; simp only [Int32.reduceToInt]; omega), if_neg (by rw [t_eq]; simp only [Int32.reduceToInt]; omega), if_neg (by rw [t_eq]; simp only [Int32.reduceToInt]; omega), bind_eta]
    · unfold fm_leaperOf
      simp only [bind_eta, mlet_e, ilet_e, llet_e, jlet_e, shelf_0, below_0, within_0, hour_0, jetty_0, law_0, leaper_0, mshelf_0, mhour_0, mspot_0, mlevel_0, mfall_0, mjetty_0, mlaw_0, mleaper_0, ix_0, ix_1, ix_2, ix_3, ix_4, ix_5, ix_6, ix_7, ix_8, ix_9]
      simp only [t_lt, t_le, Int32.reduceToInt, ix_0, ix_1, ix_2, ix_3, ix_4, ix_5, ix_6, ix_7, ix_8, ix_9]
      repeat' split
      all_goals first | rfl | (exfalso; omega)
  · have hi := t_ix (a := a1) (by omega)
    have hin : inb a1 6 := b_in (by omega) (by omega)
    obtain ⟨⟨k0, -⟩, ⟨k1, -⟩, k2, -⟩ := hA (ix a1) (by omega)
    rcases (show a2.toInt = 0 ∨ a2.toInt = 1 ∨ a2.toInt = 2 by omega) with q | q | q
    · have q : a2 = 0 := t_eq.mpr q
      subst q
      refine sim_i (r := N.1 149 (ix a1)) ?_ ?_ (Rel_next h)
      · unfold fc_leaperOf
        rw [if_neg (by rw [leaper_0, e2]; omega), if_pos rfl, gd_t hin, k0]
      · unfold fm_leaperOf
        rw [if_neg (by rw [mleaper_0]; omega), if_neg (by decide), if_pos (by decide), if_pos rfl, gd_t hin]
    · have q : a2 = 1 := t_eq.mpr q
      subst q
      refine sim_i (r := N.1 150 (ix a1)) ?_ ?_ (Rel_next h)
      · unfold fc_leaperOf
        rw [if_neg (by rw [leaper_0, e2]; omega), if_neg (by decide), if_pos rfl, gd_t hin, k1]
      · unfold fm_leaperOf
        rw [if_neg (by rw [mleaper_0]; omega), if_neg (by decide), if_pos (by decide), if_neg (by decide), if_pos rfl, gd_t hin]
    · have q : a2 = 2 := t_eq.mpr q
      subst q
      refine sim_i (r := N.1 151 (ix a1)) ?_ ?_ (Rel_next h)
      · unfold fc_leaperOf
        rw [if_neg (by rw [leaper_0, e2]; omega), if_neg (by decide), if_neg (by decide), if_pos rfl, gd_t hin, k2]
      · unfold fm_leaperOf
        rw [if_neg (by rw [mleaper_0]; omega), if_neg (by decide), if_pos (by decide), if_neg (by decide), if_neg (by decide), gd_t hin]
-- lawOf
theorem op_lawOf {c : Nat} {C N : Mem} (h : Rel c C N) (a1 a2 : Int32) : Sim c (fc_lawOf C a1 a2) (fm_lawOf N a1 a2) := by
  obtain ⟨⟨hS, hJ, hL, hF, hA, hP, hW, hV⟩, -⟩ := id h
  obtain ⟨⟨e0, b0⟩, ⟨e1, b1⟩, ⟨e2, b2⟩, ⟨e3, b3⟩, ⟨e5, b5⟩, ⟨e6, b6⟩, ⟨e7, b7⟩, ⟨e4, b4⟩, e8⟩ := id hS
  obtain ⟨l0, u0⟩ := id b0
  obtain ⟨l1, u1⟩ := id b1
  obtain ⟨l2, u2⟩ := id b2
  obtain ⟨l3, u3⟩ := id b3
  obtain ⟨l5, u5⟩ := id b5
  obtain ⟨l6, u6⟩ := id b6
  obtain ⟨l7, u7⟩ := id b7
  obtain ⟨l4, u4⟩ := id b4
  by_cases hb : (a1.toInt < 0 ∨ (N.1 156 1).toInt ≤ a1.toInt) ∨ (a2.toInt < 0 ∨ 8 < a2.toInt)
  · refine sim_2 h ?_ ?_
    · unfold fc_lawOf
      simp only [bind_eta, mlet_e, ilet_e, llet_e, jlet_e, shelf_0, below_0, within_0, hour_0, jetty_0, law_0, leaper_0, mshelf_0, mhour_0, mspot_0, mlevel_0, mfall_0, mjetty_0, mlaw_0, mleaper_0, ix_0, ix_1, ix_2, ix_3, ix_4, ix_5, ix_6, ix_7, ix_8, ix_9, e1]
      simp only [t_lt, t_le, Int32.reduceToInt, ix_0, ix_1, ix_2, ix_3, ix_4, ix_5, ix_6, ix_7, ix_8, ix_9]
      repeat' split
      all_goals first | rfl | (exfalso; omega)
    · unfold fm_lawOf
      simp only [bind_eta, mlet_e, ilet_e, llet_e, jlet_e, shelf_0, below_0, within_0, hour_0, jetty_0, law_0, leaper_0, mshelf_0, mhour_0, mspot_0, mlevel_0, mfall_0, mjetty_0, mlaw_0, mleaper_0, ix_0, ix_1, ix_2, ix_3, ix_4, ix_5, ix_6, ix_7, ix_8, ix_9]
      simp only [t_lt, t_le, Int32.reduceToInt, ix_0, ix_1, ix_2, ix_3, ix_4, ix_5, ix_6, ix_7, ix_8, ix_9]
      repeat' split
      all_goals first | rfl | (exfalso; omega)
  · have hi := t_ix (a := a1) (by omega)
    have hi2 := t_ix (a := a2) (by omega)
    obtain ⟨k0, -⟩ := hL (ix a1) (by omega)
    have t1 : ((9 : Int32) * a1).toInt = 9 * a1.toInt := by rw [t_mul] <;> simp only [Int32.reduceToInt] <;> omega
    have t2 : ((9 : Int32) * a1 + a2).toInt = 9 * a1.toInt + a2.toInt := by rw [t_add] <;> rw [t1] <;> omega
    have t3 := t_ix (a := (9 : Int32) * a1 + a2) (by omega)
    refine sim_i (r := N.1 148 (9 * ix a1 + ix a2)) ?_ ?_ (Rel_next h)
    · unfold fc_lawOf
      rw [if_neg (by rw [law_0, e1]; omega), if_neg (by rw [below_0]; simp only [Int32.reduceToInt]; omega), gd_t (b_in (by omega) (by omega)), gd_t (b_in (by omega) (by omega)), k0 _ (by omega)]
    · unfold fm_lawOf
      rw [if_neg (by rw [mlaw_0]; omega), if_neg (by rw [t_lt]; simp only [Int32.reduceToInt]; omega), if_pos (by rw [t_le]; simp only [Int32.reduceToInt]; omega), gd_t (b_in (by omega) (by omega)), show ix ((9 : Int32) * a1 + a2) = 9 * ix a1 + ix a2 by omega]
-- under
theorem op_under {c : Nat} {C N : Mem} (h : Rel c C N) (a1 : Int32) : Sim c (fc_under C a1) (fm_under N a1) := by
  obtain ⟨⟨hS, hJ, hL, hF, hA, hP, hW, hV⟩, -⟩ := id h
  obtain ⟨⟨e0, b0⟩, ⟨e1, b1⟩, ⟨e2, b2⟩, ⟨e3, b3⟩, ⟨e5, b5⟩, ⟨e6, b6⟩, ⟨e7, b7⟩, ⟨e4, b4⟩, e8⟩ := id hS
  obtain ⟨l0, u0⟩ := id b0
  obtain ⟨l1, u1⟩ := id b1
  obtain ⟨l2, u2⟩ := id b2
  obtain ⟨l3, u3⟩ := id b3
  obtain ⟨l5, u5⟩ := id b5
  obtain ⟨l6, u6⟩ := id b6
  obtain ⟨l7, u7⟩ := id b7
  obtain ⟨l4, u4⟩ := id b4
  by_cases hb : a1.toInt < 0 ∨ 4 < a1.toInt
  · refine sim_2 h ?_ ?_
    · unfold fc_under
      simp only [bind_eta, mlet_e, ilet_e, llet_e, jlet_e, shelf_0, below_0, within_0, hour_0, jetty_0, law_0, leaper_0, mshelf_0, mhour_0, mspot_0, mlevel_0, mfall_0, mjetty_0, mlaw_0, mleaper_0, ix_0, ix_1, ix_2, ix_3, ix_4, ix_5, ix_6, ix_7, ix_8, ix_9]
      simp only [t_lt, t_le, Int32.reduceToInt, ix_0, ix_1, ix_2, ix_3, ix_4, ix_5, ix_6, ix_7, ix_8, ix_9]
      repeat' split
      all_goals first | rfl | (exfalso; omega)
    · unfold fm_under
      simp only [bind_eta, mlet_e, ilet_e, llet_e, jlet_e, shelf_0, below_0, within_0, hour_0, jetty_0, law_0, leaper_0, mshelf_0, mhour_0, mspot_0, mlevel_0, mfall_0, mjetty_0, mlaw_0, mleaper_0, ix_0, ix_1, ix_2, ix_3, ix_4, ix_5, ix_6, ix_7, ix_8, ix_9]
      simp only [t_lt, t_le, Int32.reduceToInt, ix_0, ix_1, ix_2, ix_3, ix_4, ix_5, ix_6, ix_7, ix_8, ix_9]
      repeat' split
      all_goals first | rfl | (exfalso; omega)
  · rcases hV with ⟨v1, v2⟩ | ⟨v1, ⟨w1, w2, w3⟩, -, ⟨w5, -⟩, ⟨w4, -⟩, w6, w7, -⟩
    · refine sim_5 h ?_ ?_
      · unfold fc_under
        rw [if_neg (by rw [within_0]; simp only [Int32.reduceToInt]; omega), if_pos v1, bind_eta]
      · unfold fm_under
        rw [if_neg (by rw [t_lt]; simp only [Int32.reduceToInt]; omega), if_pos (by rw [t_le]; simp only [Int32.reduceToInt]; omega), ix_0, if_pos v2, bind_eta]
    · have g1 : ¬ C.1 67 0 = -1 := fun q => by
        rw [w1] at q
        have := t_eq.mp q
        simp only [Int32.reduceToInt] at this
        omega
      have g2 : ¬ N.1 157 0 = 0 := by rw [v1]; decide
      rcases (show a1.toInt = 0 ∨ a1.toInt = 1 ∨ a1.toInt = 2 ∨ a1.toInt = 3 ∨ a1.toInt = 4 by omega) with q | q | q | q | q
      · have q : a1 = 0 := t_eq.mpr q
        subst q
        refine sim_i (r := N.1 157 1) ?_ ?_ (Rel_next h)
        · unfold fc_under
          rw [if_neg (by rw [within_0]; simp only [Int32.reduceToInt]; omega), if_neg g1, if_pos rfl, w1]
        · unfold fm_under
          rw [if_neg (by decide), if_pos (by decide), ix_0, if_neg g2, if_pos rfl, ix_1]
      · have q : a1 = 1 := t_eq.mpr q
        subst q
        refine sim_i (r := N.1 157 3) ?_ ?_ (Rel_next h)
        · unfold fc_under
          rw [if_neg (by rw [within_0]; simp only [Int32.reduceToInt]; omega), if_neg g1, if_neg (by decide), if_pos rfl, w5]
        · unfold fm_under
          rw [if_neg (by decide), if_pos (by decide), ix_0, if_neg g2, if_neg (by decide), gd_t (by decide), show ix ((2 : Int32) + 1) = 3 from rfl]
      · have q : a1 = 2 := t_eq.mpr q
        subst q
        refine sim_i (r := N.1 157 4) ?_ ?_ (Rel_next h)
        · unfold fc_under
          rw [if_neg (by rw [within_0]; simp only [Int32.reduceToInt]; omega), if_neg g1, if_neg (by decide), if_neg (by decide), if_pos rfl, w4]
        · unfold fm_under
          rw [if_neg (by decide), if_pos (by decide), ix_0, if_neg g2, if_neg (by decide), gd_t (by decide), show ix ((2 : Int32) + 2) = 4 from rfl]
      · have q : a1 = 3 := t_eq.mpr q
        subst q
        refine sim_i (r := N.1 157 5) ?_ ?_ (Rel_next h)
        · unfold fc_under
          rw [if_neg (by rw [within_0]; simp only [Int32.reduceToInt]; omega), if_neg g1, if_neg (by decide), if_neg (by decide), if_neg (by decide), if_pos rfl, w6]
        · unfold fm_under
          rw [if_neg (by decide), if_pos (by decide), ix_0, if_neg g2, if_neg (by decide), gd_t (by decide), show ix ((2 : Int32) + 3) = 5 from rfl]
      · have q : a1 = 4 := t_eq.mpr q
        subst q
        refine sim_i (r := N.1 157 6) ?_ ?_ (Rel_next h)
        · unfold fc_under
          rw [if_neg (by rw [within_0]; simp only [Int32.reduceToInt]; omega), if_neg g1, if_neg (by decide), if_neg (by decide), if_neg (by decide), if_neg (by decide), w7]
        · unfold fm_under
          rw [if_neg (by decide), if_pos (by decide), ix_0, if_neg g2, if_neg (by decide), gd_t (by decide), show ix ((2 : Int32) + 4) = 6 from rfl]
