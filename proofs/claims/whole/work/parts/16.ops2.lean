theorem leI {x y : Int32} (h : y = x) : x.toInt ≤ y.toInt := by rw [h]; omega
theorem same_wI' {M M1 : Mem} {k i lo hi : Nat} {v : Int32} (h : same lo hi M M1) (hk : k < lo ∨ hi < k) : same lo hi M (wI M1 k i v) := same_t h (same_wI hk)
theorem row_wI' {M1 : Mem} {k i a : Nat} {v : Int32} {x : Nat → Int32} (h : M1.1 a = x) (hk : a ≠ k) : (wI M1 k i v).1 a = x := (wI_row _ _ _ _ hk).trans h
theorem el_wI' {M1 : Mem} {k i a b : Nat} {v x : Int32} (h : M1.1 a b = x) (hk : a ≠ k ∨ b ≠ i) : (wI M1 k i v).1 a b = x := (mem_fst hk).trans h
theorem NS_fr {C N C' N' : Mem} (h : NS C N) (h1 : C'.1 20 = C.1 20) (h2 : N'.1 156 = N.1 156) : NS C' N' := by
  unfold NS at h ⊢
  rw [h1, h2]
  exact h
theorem t_div {a b : Int32} (h : 0 ≤ a.toInt) (h2 : 0 < b.toInt) : (a / b).toInt = a.toInt / b.toInt := by
  have h3 := Int32.toInt_lt a
  rw [Int32.toInt_div, Int.tdiv_eq_ediv_of_nonneg h]
  have h4 : 0 ≤ a.toInt / b.toInt := Int.ediv_nonneg h (by omega)
  have h5 : a.toInt / b.toInt ≤ a.toInt := Int.ediv_le_self _ h
  exact Int.bmod_eq_of_le (by omega) (by omega)
theorem isB_of {x : Int32} (h : bd x 0 1) : isB x := by
  obtain ⟨h1, h2⟩ := h
  rcases (show x.toInt = 0 ∨ x.toInt = 1 by omega) with q | q
  · exact Or.inl (t_eq.mpr q)
  · exact Or.inr (t_eq.mpr q)
-- wet
theorem op_wet {c : Nat} {C N : Mem} (h : Rel c C N) (a1 a2 : Int32) (hB : isB a2) : Sim c (fc_wet C a1 a2) (fm_wet N a1 a2) := by
  obtain ⟨⟨hS, hJ, hL, hF, hA, hP, hW, hV⟩, -⟩ := id h
  obtain ⟨⟨e0, b0⟩, ⟨e1, b1⟩, ⟨e2, b2⟩, ⟨e3, b3⟩, ⟨e5, b5⟩, ⟨e6, b6⟩, ⟨e7, b7⟩, ⟨e4, b4⟩, e8⟩ := id hS
  obtain ⟨l0, u0⟩ := id b0
  obtain ⟨l1, u1⟩ := id b1
  obtain ⟨l2, u2⟩ := id b2
  obtain ⟨l3, u3⟩ := id b3
  obtain ⟨l5, u5⟩ := id b5
  obtain ⟨l6, u6⟩ := id b6
  obtain ⟨l7, u7⟩ := id b7
  obtain ⟨l4, u4⟩ := id b4
  by_cases hb : a1.toInt < 0 ∨ (N.1 156 0).toInt ≤ a1.toInt
  · refine sim_2 h ?_ ?_
    · unfold fc_wet; rw [if_pos (by rw [jetty_0, e0]; exact hb), bind_eta]
    · unfold fm_wet; rw [if_pos (by rw [mjetty_0]; exact hb), bind_eta]
  · have hi := t_ix (a := a1) (by omega)
    have hin : inb a1 20 := b_in (by omega) (by omega)
    obtain ⟨j0, j1, j2, j3, j4, j5⟩ := hJ (ix a1) (by omega)
    have hw := isB_of j5
    apply sim_i (r := N.1 146 (ix a1)) (C' := wI C (ix a1 + 22) 4 a2) (N' := wI N 146 (ix a1) a2)
    · unfold fc_wet
      rw [if_neg (by rw [jetty_0, e0]; exact hb), gd_t hin, ilet_e, gd_t hB, mlet_e, j4]
      rcases hw with q | q <;> rw [q] <;> rfl
    · unfold fm_wet
      rw [if_neg (by rw [mjetty_0]; exact hb), gd_t hin, ilet_e]
      rcases hB with q | q
      · subst q; rw [if_pos rfl, gd_t hin]; rfl
      · subst q; rw [if_neg (by decide), gd_t hin]; rfl
    · refine Rel_RN h (by repeat (first | exact same_r | refine same_wI' ?_ (by omega))) (by repeat (first | exact same_r | refine same_wI' ?_ (by omega))) (by repeat (first | exact same_r | refine same_wI' ?_ (by omega))) (by repeat (first | rfl | refine row_wI' ?_ (by omega))) (by repeat (first | exact same_r | refine same_wI' ?_ (by omega))) (leI (by repeat (first | rfl | refine el_wI' ?_ (by omega)))) ⟨NS_fr hS (by repeat (first | rfl | refine row_wI' ?_ (by omega))) (by repeat (first | rfl | refine row_wI' ?_ (by omega))), ?_, NL_fr hL u1 (by repeat (first | rfl | refine el_wI' ?_ (by omega))) (by repeat (first | exact same_r | refine same_wI' ?_ (by omega))) (by repeat (first | rfl | refine row_wI' ?_ (by omega))), NF_fr hF (by repeat (first | rfl | refine row_wI' ?_ (by omega))), NA_fr hA (by omega) u2 (by repeat (first | rfl | refine el_wI' ?_ (by omega))) (by repeat (first | exact same_r | refine same_wI' ?_ (by omega))) (by repeat (first | exact same_r | refine same_wI' ?_ (by omega))), NP_fr hP (by repeat (first | rfl | refine el_wI' ?_ (by omega))) (by repeat (first | rfl | refine row_wI' ?_ (by omega))) (by repeat (first | rfl | refine row_wI' ?_ (by omega))) (by repeat (first | rfl | refine row_wI' ?_ (by omega))) (by repeat (first | rfl | refine row_wI' ?_ (by omega))), NW_fr hW (by repeat (first | rfl | refine row_wI' ?_ (by omega))) (by repeat (first | rfl | refine row_wI' ?_ (by omega))), NV_fr hV (by omega) (by repeat (first | rfl | refine row_wI' ?_ (by omega))) (by repeat (first | rfl | refine row_wI' ?_ (by omega))) (by repeat (first | rfl | refine row_wI' ?_ (by omega))) (fun j _ => (by repeat (first | rfl | refine el_wI' ?_ (by omega)))) (leI (by repeat (first | rfl | refine el_wI' ?_ (by omega)))) (leI (by repeat (first | rfl | refine el_wI' ?_ (by omega))))⟩
      intro j hj
      rw [show (wI N 146 (ix a1) a2).1 156 0 = N.1 156 0 from (by repeat (first | rfl | refine el_wI' ?_ (by omega)))] at hj
      obtain ⟨k0, k1, k2, k3, k4, k5⟩ := hJ j hj
      simp only [wI_row N 146 _ _ (show (142 : Nat) ≠ 146 by omega), wI_row N 146 _ _ (show (143 : Nat) ≠ 146 by omega), wI_row N 146 _ _ (show (144 : Nat) ≠ 146 by omega), wI_row N 146 _ _ (show (145 : Nat) ≠ 146 by omega)]
      rw [mem_fst (k := ix a1 + 22) (i := 4) (b := 0) (by omega), mem_fst (k := ix a1 + 22) (i := 4) (b := 1) (by omega), mem_fst (k := ix a1 + 22) (i := 4) (b := 2) (by omega), mem_fst (k := ix a1 + 22) (i := 4) (b := 3) (by omega)]
      refine ⟨k0, k1, k2, k3, ?_⟩
      by_cases e : j = ix a1
      · subst e
        rw [wI_s, wI_s]
        refine ⟨rfl, ?_⟩
        rcases hB with q | q <;> subst q <;> exact ⟨by decide, by decide⟩
      · rw [mem_fst (by omega), mem_fst (by omega)]
        exact ⟨k4, k5⟩
-- jetty
set_option maxHeartbeats 2000000 in
theorem op_jetty {c : Nat} {C N : Mem} (h : Rel c C N) (a1 a2 a3 a4 : Int32) : Sim c (fc_jetty C a1 a2 a3 a4) (fm_jetty N a1 a2 a3 a4) := by
  obtain ⟨⟨hS, hJ, hL, hF, hA, hP, hW, hV⟩, -⟩ := id h
  obtain ⟨⟨e0, b0⟩, ⟨e1, b1⟩, ⟨e2, b2⟩, ⟨e3, b3⟩, ⟨e5, b5⟩, ⟨e6, b6⟩, ⟨e7, b7⟩, ⟨e4, b4⟩, e8⟩ := id hS
  obtain ⟨l0, u0⟩ := id b0
  obtain ⟨l1, u1⟩ := id b1
  obtain ⟨l2, u2⟩ := id b2
  obtain ⟨l3, u3⟩ := id b3
  obtain ⟨l5, u5⟩ := id b5
  obtain ⟨l6, u6⟩ := id b6
  obtain ⟨l7, u7⟩ := id b7
  obtain ⟨l4, u4⟩ := id b4
  by_cases hb : (a1.toInt < 0 ∨ 5 < a1.toInt) ∨ (a2.toInt < 0 ∨ 256 ≤ a2.toInt) ∨ (a3.toInt < 1 ∨ 30 < a3.toInt) ∨ (a4.toInt < 0 ∨ 99 < a4.toInt)
  · refine sim_2 h ?_ ?_
    · unfold fc_jetty
      simp only [bind_eta, mlet_e, ilet_e, llet_e, jlet_e, shelf_0, below_0, within_0, hour_0, jetty_0, law_0, leaper_0, mshelf_0, mhour_0, mspot_0, mlevel_0, mfall_0, mjetty_0, mlaw_0, mleaper_0, ix_0, ix_1, ix_2, ix_3, ix_4, ix_5, ix_6, ix_7, ix_8, ix_9]
      simp only [t_lt, t_le, Int32.reduceToInt, ix_0, ix_1, ix_2, ix_3, ix_4, ix_5, ix_6, ix_7, ix_8, ix_9]
      repeat' split
      all_goals first | rfl | (exfalso; omega)
    · unfold fm_jetty
      simp only [bind_eta, mlet_e, ilet_e, llet_e, jlet_e, shelf_0, below_0, within_0, hour_0, jetty_0, law_0, leaper_0, mshelf_0, mhour_0, mspot_0, mlevel_0, mfall_0, mjetty_0, mlaw_0, mleaper_0, ix_0, ix_1, ix_2, ix_3, ix_4, ix_5, ix_6, ix_7, ix_8, ix_9]
      simp only [t_lt, t_le, Int32.reduceToInt, ix_0, ix_1, ix_2, ix_3, ix_4, ix_5, ix_6, ix_7, ix_8, ix_9]
      repeat' split
      all_goals first | rfl | (exfalso; omega)
  · by_cases hf : (N.1 156 0).toInt = 20
    · refine sim_6 h ?_ ?_
      · unfold fc_jetty
        rw [if_neg (by rw [below_0]; simp only [Int32.reduceToInt]; omega), if_neg (by rw [below_0]; simp only [Int32.reduceToInt]; omega), if_neg (by rw [within_0]; simp only [Int32.reduceToInt]; omega), if_neg (by rw [within_0]; simp only [Int32.reduceToInt]; omega), if_neg (by rw [e0]; rw [t_lt]; simp only [Int32.reduceToInt]; omega), bind_eta]
      · unfold fm_jetty
        rw [if_neg (by rw [t_lt]; simp only [Int32.reduceToInt]; omega), if_neg (by rw [t_lt]; simp only [Int32.reduceToInt]; omega), if_neg (by rw [mspot_0]; omega), if_neg (by rw [t_lt]; simp only [Int32.reduceToInt]; omega), if_neg (by rw [t_lt]; simp only [Int32.reduceToInt]; omega), if_neg (by rw [t_lt]; simp only [Int32.reduceToInt]; omega), if_pos (by rw [t_le]; simp only [Int32.reduceToInt]; omega), if_pos (by rw [t_eq]; exact hf), bind_eta]
    · have hi := t_ix (a := N.1 156 0) (by omega)
      have hin : inb (N.1 156 0) 20 := b_in (by omega) (by omega)
      obtain ⟨n, hn⟩ : ∃ n, n = ix (N.1 156 0) := ⟨_, rfl⟩
      rw [← hn] at hi
      apply sim_i (r := N.1 156 0) (C' := wI (wI (wI (wI (wI (wI C (n + 22) 0 a1) (n + 22) 1 a2) (n + 22) 2 a3) (n + 22) 3 a4) (n + 22) 4 0) 20 1 (C.1 20 1 + 1)) (N' := wI (wI (wI (wI (wI (wI N 156 0 (N.1 156 0 + 1)) 142 n a1) 143 n a2) 144 n a3) 145 n a4) 146 n 0)
      · unfold fc_jetty
        rw [if_neg (by rw [below_0]; simp only [Int32.reduceToInt]; omega), if_neg (by rw [below_0]; simp only [Int32.reduceToInt]; omega), if_neg (by rw [within_0]; simp only [Int32.reduceToInt]; omega), if_neg (by rw [within_0]; simp only [Int32.reduceToInt]; omega), if_pos (by rw [e0]; rw [t_lt]; simp only [Int32.reduceToInt]; omega), e0, gd_t hin, ← hn]
        unfold fJetty_build
        simp only [mlet_e, Option.bind_some]
        rw [show (wI (wI (wI (wI (wI C (n + 22) 0 a1) (n + 22) 1 a2) (n + 22) 2 a3) (n + 22) 3 a4) (n + 22) 4 0).1 20 1 = C.1 20 1 from (by repeat (first | rfl | refine el_wI' ?_ (by omega))), wI_s, e0]
        simp
      · unfold fm_jetty
        rw [if_neg (by rw [t_lt]; simp only [Int32.reduceToInt]; omega), if_neg (by rw [t_lt]; simp only [Int32.reduceToInt]; omega), if_neg (by rw [mspot_0]; omega), if_neg (by rw [t_lt]; simp only [Int32.reduceToInt]; omega), if_neg (by rw [t_lt]; simp only [Int32.reduceToInt]; omega), if_neg (by rw [t_lt]; simp only [Int32.reduceToInt]; omega), if_pos (by rw [t_le]; simp only [Int32.reduceToInt]; omega), if_neg (by rw [t_eq]; exact hf), mlet_e, ilet_e, ix_0, gd_t hin, mlet_e, gd_t hin, mlet_e, gd_t hin, mlet_e, gd_t hin, mlet_e, gd_t hin, mlet_e, ← hn]
      · have t1 : (N.1 156 0 + 1).toInt = (N.1 156 0).toInt + 1 := by rw [t_add] <;> simp only [Int32.reduceToInt] <;> omega
        refine Rel_RN h (by repeat (first | exact same_r | refine same_wI' ?_ (by omega))) (by repeat (first | exact same_r | refine same_wI' ?_ (by omega))) (by repeat (first | exact same_r | refine same_wI' ?_ (by omega))) (by repeat (first | rfl | refine row_wI' ?_ (by omega))) (by repeat (first | exact same_r | refine same_wI' ?_ (by omega))) ?_ ⟨?_, ?_, NL_fr hL u1 (by repeat (first | rfl | refine el_wI' ?_ (by omega))) (by repeat (first | exact same_r | refine same_wI' ?_ (by omega))) (by repeat (first | rfl | refine row_wI' ?_ (by omega))), NF_fr hF (by repeat (first | rfl | refine row_wI' ?_ (by omega))), NA_fr hA (by omega) u2 (by repeat (first | rfl | refine el_wI' ?_ (by omega))) (by repeat (first | exact same_r | refine same_wI' ?_ (by omega))) (by repeat (first | exact same_r | refine same_wI' ?_ (by omega))), NP_fr hP (by repeat (first | rfl | refine el_wI' ?_ (by omega))) (by repeat (first | rfl | refine row_wI' ?_ (by omega))) (by repeat (first | rfl | refine row_wI' ?_ (by omega))) (by repeat (first | rfl | refine row_wI' ?_ (by omega))) (by repeat (first | rfl | refine row_wI' ?_ (by omega))), NW_fr hW (by repeat (first | rfl | refine row_wI' ?_ (by omega))) (by repeat (first | rfl | refine row_wI' ?_ (by omega))), NV_fr hV (by omega) (by repeat (first | rfl | refine row_wI' ?_ (by omega))) (by repeat (first | rfl | refine row_wI' ?_ (by omega))) (by repeat (first | rfl | refine row_wI' ?_ (by omega))) (fun j hj => (by repeat (first | rfl | refine el_wI' ?_ (by omega)))) ?_ (leI (by repeat (first | rfl | refine el_wI' ?_ (by omega))))⟩
        · rw [wI_s, e0, t1]; omega
        · rw [e0]
          unfold NS
          simp [wI_1, *, bd]
          all_goals omega
        · intro j hj
          rw [show (wI (wI (wI (wI (wI (wI N 156 0 (N.1 156 0 + 1)) 142 n a1) 143 n a2) 144 n a3) 145 n a4) 146 n 0).1 156 0 = N.1 156 0 + 1 from (by repeat (first | exact wI_s | refine el_wI' ?_ (by omega))), t1] at hj
          by_cases e : j = n
          · subst e
            simp [wI_1, bd]
            omega
          · obtain ⟨k0, k1, k2, k3, k4⟩ := hJ j (by omega)
            simp [wI_1, e]
            exact ⟨k0, k1, k2, k3, k4⟩
        · rw [show (wI (wI (wI (wI (wI (wI N 156 0 (N.1 156 0 + 1)) 142 n a1) 143 n a2) 144 n a3) 145 n a4) 146 n 0).1 156 0 = N.1 156 0 + 1 from (by repeat (first | exact wI_s | refine el_wI' ?_ (by omega))), t1]
          omega
-- leaper
set_option maxHeartbeats 2000000 in
theorem op_leaper {c : Nat} {C N : Mem} (h : Rel c C N) (a1 : Int32) : Sim c (fc_leaper C a1) (fm_leaper N a1) := by
  obtain ⟨⟨hS, hJ, hL, hF, hA, hP, hW, hV⟩, -⟩ := id h
  obtain ⟨⟨e0, b0⟩, ⟨e1, b1⟩, ⟨e2, b2⟩, ⟨e3, b3⟩, ⟨e5, b5⟩, ⟨e6, b6⟩, ⟨e7, b7⟩, ⟨e4, b4⟩, e8⟩ := id hS
  obtain ⟨l0, u0⟩ := id b0
  obtain ⟨l1, u1⟩ := id b1
  obtain ⟨l2, u2⟩ := id b2
  obtain ⟨l3, u3⟩ := id b3
  obtain ⟨l5, u5⟩ := id b5
  obtain ⟨l6, u6⟩ := id b6
  obtain ⟨l7, u7⟩ := id b7
  obtain ⟨l4, u4⟩ := id b4
  by_cases hb : a1.toInt < 0 ∨ 99 < a1.toInt
  · refine sim_2 h ?_ ?_
    · unfold fc_leaper
      simp only [bind_eta, mlet_e, ilet_e, llet_e, jlet_e, shelf_0, below_0, within_0, hour_0, jetty_0, law_0, leaper_0, mshelf_0, mhour_0, mspot_0, mlevel_0, mfall_0, mjetty_0, mlaw_0, mleaper_0, ix_0, ix_1, ix_2, ix_3, ix_4, ix_5, ix_6, ix_7, ix_8, ix_9]
      simp only [t_lt, t_le, Int32.reduceToInt, ix_0, ix_1, ix_2, ix_3, ix_4, ix_5, ix_6, ix_7, ix_8, ix_9]
      repeat' split
      all_goals first | rfl | (exfalso; omega)
    · unfold fm_leaper
      simp only [bind_eta, mlet_e, ilet_e, llet_e, jlet_e, shelf_0, below_0, within_0, hour_0, jetty_0, law_0, leaper_0, mshelf_0, mhour_0, mspot_0, mlevel_0, mfall_0, mjetty_0, mlaw_0, mleaper_0, ix_0, ix_1, ix_2, ix_3, ix_4, ix_5, ix_6, ix_7, ix_8, ix_9]
      simp only [t_lt, t_le, Int32.reduceToInt, ix_0, ix_1, ix_2, ix_3, ix_4, ix_5, ix_6, ix_7, ix_8, ix_9]
      repeat' split
      all_goals first | rfl | (exfalso; omega)
  · by_cases hf : (N.1 156 2).toInt = 6
    · refine sim_6 h ?_ ?_
      · unfold fc_leaper
        rw [if_neg (by rw [within_0]; simp only [Int32.reduceToInt]; omega), if_neg (by rw [e2]; rw [t_lt]; simp only [Int32.reduceToInt]; omega), bind_eta]
      · unfold fm_leaper
        rw [if_neg (by rw [t_lt]; simp only [Int32.reduceToInt]; omega), if_pos (by rw [t_le]; simp only [Int32.reduceToInt]; omega), if_pos (by rw [t_eq]; exact hf), bind_eta]
    · have hi := t_ix (a := N.1 156 2) (by omega)
      have hin : inb (N.1 156 2) 6 := b_in (by omega) (by omega)
      obtain ⟨n, hn⟩ : ∃ n, n = ix (N.1 156 2) := ⟨_, rfl⟩
      rw [← hn] at hi
      apply sim_i (r := N.1 156 2) (C' := wI (wI (wI (wI C (n + 58) 0 a1) (n + 58) 1 0) (n + 58) 2 0) 20 7 (C.1 20 7 + 1)) (N' := wI (wI (wI (wI N 156 2 (N.1 156 2 + 1)) 149 n a1) 150 n 0) 151 n 0)
      · unfold fc_leaper
        rw [if_neg (by rw [within_0]; simp only [Int32.reduceToInt]; omega), if_pos (by rw [e2]; rw [t_lt]; simp only [Int32.reduceToInt]; omega), e2, gd_t hin, ← hn]
        unfold fLeaper_join
        simp only [mlet_e, Option.bind_some]
        rw [show (wI (wI (wI C (n + 58) 0 a1) (n + 58) 1 0) (n + 58) 2 0).1 20 7 = C.1 20 7 from (by repeat (first | rfl | refine el_wI' ?_ (by omega))), wI_s, e2]
        simp
      · unfold fm_leaper
        rw [if_neg (by rw [t_lt]; simp only [Int32.reduceToInt]; omega), if_pos (by rw [t_le]; simp only [Int32.reduceToInt]; omega), if_neg (by rw [t_eq]; exact hf), mlet_e, ilet_e, ix_2, gd_t hin, mlet_e, gd_t hin, mlet_e, gd_t hin, mlet_e, ← hn]
      · have t1 : (N.1 156 2 + 1).toInt = (N.1 156 2).toInt + 1 := by rw [t_add] <;> simp only [Int32.reduceToInt] <;> omega
        have t2 : (wI (wI (wI (wI N 156 2 (N.1 156 2 + 1)) 149 n a1) 150 n 0) 151 n 0).1 156 2 = N.1 156 2 + 1 := (by repeat (first | exact wI_s | refine el_wI' ?_ (by omega)))
        refine Rel_RN h (by repeat (first | exact same_r | refine same_wI' ?_ (by omega))) (by repeat (first | exact same_r | refine same_wI' ?_ (by omega))) (by repeat (first | exact same_r | refine same_wI' ?_ (by omega))) (by repeat (first | rfl | refine row_wI' ?_ (by omega))) (by repeat (first | exact same_r | refine same_wI' ?_ (by omega))) (leI (by repeat (first | rfl | refine el_wI' ?_ (by omega)))) ⟨?_, NJ_fr hJ u0 (by repeat (first | rfl | refine el_wI' ?_ (by omega))) (by repeat (first | exact same_r | refine same_wI' ?_ (by omega))) (by repeat (first | exact same_r | refine same_wI' ?_ (by omega))), NL_fr hL u1 (by repeat (first | rfl | refine el_wI' ?_ (by omega))) (by repeat (first | exact same_r | refine same_wI' ?_ (by omega))) (by repeat (first | rfl | refine row_wI' ?_ (by omega))), NF_fr hF (by repeat (first | rfl | refine row_wI' ?_ (by omega))), ?_, NP_fr hP (by repeat (first | rfl | refine el_wI' ?_ (by omega))) (by repeat (first | rfl | refine row_wI' ?_ (by omega))) (by repeat (first | rfl | refine row_wI' ?_ (by omega))) (by repeat (first | rfl | refine row_wI' ?_ (by omega))) (by repeat (first | rfl | refine row_wI' ?_ (by omega))), NW_fr hW (by repeat (first | rfl | refine row_wI' ?_ (by omega))) (by repeat (first | rfl | refine row_wI' ?_ (by omega))), NV_fr hV (by omega) (by repeat (first | rfl | refine row_wI' ?_ (by omega))) (by repeat (first | rfl | refine row_wI' ?_ (by omega))) (by repeat (first | rfl | refine row_wI' ?_ (by omega))) (fun j hj => (by repeat (first | rfl | refine el_wI' ?_ (by omega)))) (leI (by repeat (first | rfl | refine el_wI' ?_ (by omega)))) ?_⟩
        · rw [e2]
          unfold NS
          simp [wI_1, *, bd]
          all_goals omega
        · intro j hj
          rw [t2, t1] at hj
          by_cases e : j = n
          · subst e
            simp [wI_1, bd]
            omega
          · obtain ⟨k0, k1, k2⟩ := hA j (by omega)
            simp [wI_1, e]
            refine ⟨k0, ⟨k1.1, k1.2.1, by have := k1.2.2; omega⟩, k2⟩
        · rw [t2, t1]
          omega
-- parcel
set_option maxHeartbeats 2000000 in
theorem op_parcel {c : Nat} {C N : Mem} (h : Rel c C N) (a1 a2 a3 : Int32) : Sim c (fc_parcel C a1 a2 a3) (fm_parcel N a1 a2 a3) := by
  obtain ⟨⟨hS, hJ, hL, hF, hA, hP, hW, hV⟩, -⟩ := id h
  obtain ⟨⟨e0, b0⟩, ⟨e1, b1⟩, ⟨e2, b2⟩, ⟨e3, b3⟩, ⟨e5, b5⟩, ⟨e6, b6⟩, ⟨e7, b7⟩, ⟨e4, b4⟩, e8⟩ := id hS
  obtain ⟨l0, u0⟩ := id b0
  obtain ⟨l1, u1⟩ := id b1
  obtain ⟨l2, u2⟩ := id b2
  obtain ⟨l3, u3⟩ := id b3
  obtain ⟨l5, u5⟩ := id b5
  obtain ⟨l6, u6⟩ := id b6
  obtain ⟨l7, u7⟩ := id b7
  obtain ⟨l4, u4⟩ := id b4
  by_cases hb : (a1.toInt < 0 ∨ (N.1 156 0).toInt ≤ a1.toInt) ∨ (a2.toInt < 1 ∨ 60 < a2.toInt) ∨ (a3.toInt < 1 ∨ 99 < a3.toInt)
  · refine sim_2 h ?_ ?_
    · unfold fc_parcel
      simp only [bind_eta, mlet_e, ilet_e, llet_e, jlet_e, shelf_0, below_0, within_0, hour_0, jetty_0, law_0, leaper_0, mshelf_0, mhour_0, mspot_0, mlevel_0, mfall_0, mjetty_0, mlaw_0, mleaper_0, ix_0, ix_1, ix_2, ix_3, ix_4, ix_5, ix_6, ix_7, ix_8, ix_9, e0]
      simp only [t_lt, t_le, Int32.reduceToInt, ix_0, ix_1, ix_2, ix_3, ix_4, ix_5, ix_6, ix_7, ix_8, ix_9]
      repeat' split
      all_goals first | rfl | (exfalso; omega)
    · unfold fm_parcel
      simp only [bind_eta, mlet_e, ilet_e, llet_e, jlet_e, shelf_0, below_0, within_0, hour_0, jetty_0, law_0, leaper_0, mshelf_0, mhour_0, mspot_0, mlevel_0, mfall_0, mjetty_0, mlaw_0, mleaper_0, ix_0, ix_1, ix_2, ix_3, ix_4, ix_5, ix_6, ix_7, ix_8, ix_9]
      simp only [t_lt, t_le, Int32.reduceToInt, ix_0, ix_1, ix_2, ix_3, ix_4, ix_5, ix_6, ix_7, ix_8, ix_9]
      repeat' split
      all_goals first | rfl | (exfalso; omega)
  · by_cases hf : (N.1 156 3).toInt = 10
    · refine sim_6 h ?_ ?_
      · unfold fc_parcel
        rw [if_neg (by rw [jetty_0, e0]; omega), if_neg (by rw [within_0]; simp only [Int32.reduceToInt]; omega), if_neg (by rw [within_0]; simp only [Int32.reduceToInt]; omega), if_neg (by rw [e3]; rw [t_lt]; simp only [Int32.reduceToInt]; omega), bind_eta]
      · unfold fm_parcel
        rw [if_neg (by rw [mjetty_0]; omega), if_neg (by rw [t_lt]; simp only [Int32.reduceToInt]; omega), if_neg (by rw [t_lt]; simp only [Int32.reduceToInt]; omega), if_neg (by rw [t_lt]; simp only [Int32.reduceToInt]; omega), if_pos (by rw [t_le]; simp only [Int32.reduceToInt]; omega), if_pos (by rw [t_eq]; exact hf), bind_eta]
    · have hi := t_ix (a := N.1 156 3) (by omega)
      have hin : inb (N.1 156 3) 10 := b_in (by omega) (by omega)
      obtain ⟨n, hn⟩ : ∃ n, n = ix (N.1 156 3) := ⟨_, rfl⟩
      rw [← hn] at hi
      apply sim_i (r := N.1 156 3) (C' := wI (wI (wI C 64 n a2) 65 n a3) 20 10 (C.1 20 10 + 1)) (N' := wI (wI (wI (wI N 156 3 (N.1 156 3 + 1)) 152 n a1) 153 n a2) 154 n a3)
      · unfold fc_parcel
        rw [if_neg (by rw [jetty_0, e0]; omega), if_neg (by rw [within_0]; simp only [Int32.reduceToInt]; omega), if_neg (by rw [within_0]; simp only [Int32.reduceToInt]; omega), if_pos (by rw [e3]; rw [t_lt]; simp only [Int32.reduceToInt]; omega), e3, gd_t hin, ← hn, mlet_e]
        rw [show (wI C 64 n a2).1 20 10 = C.1 20 10 from (by repeat (first | rfl | refine el_wI' ?_ (by omega))), e3, gd_t hin, ← hn, mlet_e, mlet_e]
        rw [show (wI (wI C 64 n a2) 65 n a3).1 20 10 = C.1 20 10 from (by repeat (first | rfl | refine el_wI' ?_ (by omega))), wI_s, e3]
        simp
      · unfold fm_parcel
        rw [if_neg (by rw [mjetty_0]; omega), if_neg (by rw [t_lt]; simp only [Int32.reduceToInt]; omega), if_neg (by rw [t_lt]; simp only [Int32.reduceToInt]; omega), if_neg (by rw [t_lt]; simp only [Int32.reduceToInt]; omega), if_pos (by rw [t_le]; simp only [Int32.reduceToInt]; omega), if_neg (by rw [t_eq]; exact hf), mlet_e, ilet_e, ix_3, gd_t hin, mlet_e, gd_t hin, mlet_e, gd_t hin, mlet_e, ← hn]
      · have t1 : (N.1 156 3 + 1).toInt = (N.1 156 3).toInt + 1 := by rw [t_add] <;> simp only [Int32.reduceToInt] <;> omega
        have t2 : (wI (wI (wI (wI N 156 3 (N.1 156 3 + 1)) 152 n a1) 153 n a2) 154 n a3).1 156 3 = N.1 156 3 + 1 := (by repeat (first | exact wI_s | refine el_wI' ?_ (by omega)))
        refine Rel_RN h (by repeat (first | exact same_r | refine same_wI' ?_ (by omega))) (by repeat (first | exact same_r | refine same_wI' ?_ (by omega))) (by repeat (first | exact same_r | refine same_wI' ?_ (by omega))) (by repeat (first | rfl | refine row_wI' ?_ (by omega))) (by repeat (first | exact same_r | refine same_wI' ?_ (by omega))) (leI (by repeat (first | rfl | refine el_wI' ?_ (by omega)))) ⟨?_, NJ_fr hJ u0 (by repeat (first | rfl | refine el_wI' ?_ (by omega))) (by repeat (first | exact same_r | refine same_wI' ?_ (by omega))) (by repeat (first | exact same_r | refine same_wI' ?_ (by omega))), NL_fr hL u1 (by repeat (first | rfl | refine el_wI' ?_ (by omega))) (by repeat (first | exact same_r | refine same_wI' ?_ (by omega))) (by repeat (first | rfl | refine row_wI' ?_ (by omega))), NF_fr hF (by repeat (first | rfl | refine row_wI' ?_ (by omega))), NA_fr hA (by omega) u2 (by repeat (first | rfl | refine el_wI' ?_ (by omega))) (by repeat (first | exact same_r | refine same_wI' ?_ (by omega))) (by repeat (first | exact same_r | refine same_wI' ?_ (by omega))), ?_, NW_fr hW (by repeat (first | rfl | refine row_wI' ?_ (by omega))) (by repeat (first | rfl | refine row_wI' ?_ (by omega))), NV_fr hV (by omega) (by repeat (first | rfl | refine row_wI' ?_ (by omega))) (by repeat (first | rfl | refine row_wI' ?_ (by omega))) (by repeat (first | rfl | refine row_wI' ?_ (by omega))) (fun j _ => (by repeat (first | rfl | refine el_wI' ?_ (by omega)))) (leI (by repeat (first | rfl | refine el_wI' ?_ (by omega)))) (leI (by repeat (first | rfl | refine el_wI' ?_ (by omega))))⟩
        · rw [e3]
          unfold NS
          simp [wI_1, *, bd]
          all_goals omega
        · intro j hj
          rw [t2, t1] at hj
          by_cases e : j = n
          · subst e
            simp [wI_1, bd]
            omega
          · obtain ⟨k0, k1⟩ := hP j (by omega)
            simp [wI_1, e]
            exact ⟨k0, k1⟩
-- tried
set_option maxHeartbeats 2000000 in
theorem op_tried {c : Nat} {C N : Mem} (hc : c < 64) (h : Rel c C N) (a1 a2 a3 : Int32) : Sim c (fc_tried C a1 a2 a3) (fm_tried N a1 a2 a3) := by
  obtain ⟨⟨hS, hJ, hL, hF, hA, hP, hW, hV⟩, -⟩ := id h
  obtain ⟨⟨e0, b0⟩, ⟨e1, b1⟩, ⟨e2, b2⟩, ⟨e3, b3⟩, ⟨e5, b5⟩, ⟨e6, b6⟩, ⟨e7, b7⟩, ⟨e4, b4⟩, e8⟩ := id hS
  obtain ⟨l0, u0⟩ := id b0
  obtain ⟨l1, u1⟩ := id b1
  obtain ⟨l2, u2⟩ := id b2
  obtain ⟨l3, u3⟩ := id b3
  obtain ⟨l5, u5⟩ := id b5
  obtain ⟨l6, u6⟩ := id b6
  obtain ⟨l7, u7⟩ := id b7
  obtain ⟨l4, u4⟩ := id b4
  by_cases hb : (a1.toInt < 0 ∨ (N.1 156 2).toInt ≤ a1.toInt) ∨ (a2.toInt < 1 ∨ 99 < a2.toInt) ∨ (a3.toInt < 0 ∨ a2.toInt < a3.toInt)
  · refine sim_2 h ?_ ?_
    · unfold fc_tried
      simp only [bind_eta, mlet_e, ilet_e, llet_e, jlet_e, shelf_0, below_0, within_0, hour_0, jetty_0, law_0, leaper_0, mshelf_0, mhour_0, mspot_0, mlevel_0, mfall_0, mjetty_0, mlaw_0, mleaper_0, ix_0, ix_1, ix_2, ix_3, ix_4, ix_5, ix_6, ix_7, ix_8, ix_9, e2]
      simp only [t_lt, t_le, Int32.reduceToInt, ix_0, ix_1, ix_2, ix_3, ix_4, ix_5, ix_6, ix_7, ix_8, ix_9]
      repeat' split
      all_goals first | rfl | (exfalso; omega)
    · unfold fm_tried
      simp only [bind_eta, mlet_e, ilet_e, llet_e, jlet_e, shelf_0, below_0, within_0, hour_0, jetty_0, law_0, leaper_0, mshelf_0, mhour_0, mspot_0, mlevel_0, mfall_0, mjetty_0, mlaw_0, mleaper_0, ix_0, ix_1, ix_2, ix_3, ix_4, ix_5, ix_6, ix_7, ix_8, ix_9]
      simp only [t_lt, t_le, Int32.reduceToInt, ix_0, ix_1, ix_2, ix_3, ix_4, ix_5, ix_6, ix_7, ix_8, ix_9]
      repeat' split
      all_goals first | rfl | (exfalso; omega)
  · have hi := t_ix (a := a1) (by omega)
    have hin : inb a1 6 := b_in (by omega) (by omega)
    obtain ⟨n, hn⟩ : ∃ n, n = ix a1 := ⟨_, rfl⟩
    obtain ⟨⟨k0, k1⟩, ⟨k2, k3, k4⟩, k5, k6, k7⟩ := hA (ix a1) (by omega)
    rw [← hn] at hi k0 k1 k2 k3 k4 k5 k6 k7
    have t1 : (N.1 150 n + a2).toInt = (N.1 150 n).toInt + a2.toInt := by rw [t_add] <;> omega
    have t2 : (N.1 151 n + a3).toInt = (N.1 151 n).toInt + a3.toInt := by rw [t_add] <;> omega
    apply sim_i (r := N.1 150 n + a2) (C' := wI (wI C (n + 58) 1 (N.1 150 n + a2)) (n + 58) 2 (N.1 151 n + a3)) (N' := wI (wI N 150 n (N.1 150 n + a2)) 151 n (N.1 151 n + a3))
    · unfold fc_tried
      rw [if_neg (by rw [leaper_0, e2]; omega), if_neg (by rw [within_0]; simp only [Int32.reduceToInt]; omega), if_neg (by rw [within_0]; simp only [Int32.reduceToInt]; omega), gd_t hin, ← hn]
      unfold fLeaper_count
      simp only [mlet_e, Option.bind_some]
      rw [gd_t hin, k2, mem_fst (M := C) (by omega), k5, mem_fst (by omega), wI_s]
    · unfold fm_tried
      rw [if_neg (by rw [mleaper_0]; omega), if_neg (by rw [t_lt]; simp only [Int32.reduceToInt]; omega), if_neg (by rw [t_lt]; simp only [Int32.reduceToInt]; omega), if_neg (by rw [t_lt]; simp only [Int32.reduceToInt]; omega), if_pos (by rw [t_le]; omega), gd_t hin, gd_t hin, mlet_e, gd_t hin, gd_t hin, mlet_e, gd_t hin, ← hn, mem_fst (M := N) (by omega), mem_fst (by omega), wI_s]
    · refine Rel_RN h (by repeat (first | exact same_r | refine same_wI' ?_ (by omega))) (by repeat (first | exact same_r | refine same_wI' ?_ (by omega))) (by repeat (first | exact same_r | refine same_wI' ?_ (by omega))) (by repeat (first | rfl | refine row_wI' ?_ (by omega))) (by repeat (first | exact same_r | refine same_wI' ?_ (by omega))) (leI (by repeat (first | rfl | refine el_wI' ?_ (by omega)))) ⟨NS_fr hS (by repeat (first | rfl | refine row_wI' ?_ (by omega))) (by repeat (first | rfl | refine row_wI' ?_ (by omega))), NJ_fr hJ u0 (by repeat (first | rfl | refine el_wI' ?_ (by omega))) (by repeat (first | exact same_r | refine same_wI' ?_ (by omega))) (by repeat (first | exact same_r | refine same_wI' ?_ (by omega))), NL_fr hL u1 (by repeat (first | rfl | refine el_wI' ?_ (by omega))) (by repeat (first | exact same_r | refine same_wI' ?_ (by omega))) (by repeat (first | rfl | refine row_wI' ?_ (by omega))), NF_fr hF (by repeat (first | rfl | refine row_wI' ?_ (by omega))), ?_, NP_fr hP (by repeat (first | rfl | refine el_wI' ?_ (by omega))) (by repeat (first | rfl | refine row_wI' ?_ (by omega))) (by repeat (first | rfl | refine row_wI' ?_ (by omega))) (by repeat (first | rfl | refine row_wI' ?_ (by omega))) (by repeat (first | rfl | refine row_wI' ?_ (by omega))), NW_fr hW (by repeat (first | rfl | refine row_wI' ?_ (by omega))) (by repeat (first | rfl | refine row_wI' ?_ (by omega))), NV_fr hV (by omega) (by repeat (first | rfl | refine row_wI' ?_ (by omega))) (by repeat (first | rfl | refine row_wI' ?_ (by omega))) (by repeat (first | rfl | refine row_wI' ?_ (by omega))) (fun j _ => (by repeat (first | rfl | refine el_wI' ?_ (by omega)))) (leI (by repeat (first | rfl | refine el_wI' ?_ (by omega)))) (leI (by repeat (first | rfl | refine el_wI' ?_ (by omega))))⟩
      intro j hj
      rw [show (wI (wI N 150 n (N.1 150 n + a2)) 151 n (N.1 151 n + a3)).1 156 2 = N.1 156 2 from (by repeat (first | rfl | refine el_wI' ?_ (by omega)))] at hj
      by_cases e : j = n
      · subst e
        simp only [wI_1]
        simp [bd, k0]
        refine ⟨k1, ?_, ?_⟩
        · rw [← Int32.toInt_add, t1]; omega
        · rw [← Int32.toInt_add, ← Int32.toInt_add, t1, t2]; omega
      · obtain ⟨m0, m1, m2⟩ := hA j hj
        simp [wI_1, e]
        exact ⟨m0, ⟨m1.1, m1.2.1, by have := m1.2.2; omega⟩, m2⟩
