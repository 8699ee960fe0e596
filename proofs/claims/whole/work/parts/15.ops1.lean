theorem wI_s {M : Mem} {k i : Nat} {v : Int32} : (wI M k i v).1 k i = v := by rw [wI_1, if_pos ⟨rfl, rfl⟩]
theorem ix_0 : ix 0 = 0 := rfl
theorem ix_1 : ix 1 = 1 := rfl
theorem ix_2 : ix 2 = 2 := rfl
theorem ix_3 : ix 3 = 3 := rfl
theorem ix_4 : ix 4 = 4 := rfl
theorem ix_5 : ix 5 = 5 := rfl
theorem ix_6 : ix 6 = 6 := rfl
theorem ix_7 : ix 7 = 7 := rfl
theorem ix_8 : ix 8 = 8 := rfl
theorem ix_9 : ix 9 = 9 := rfl
theorem RN_sc {c : Nat} {C N C' N' : Mem} (h : RN c C N) (hC : ∀ k, k ≠ 20 → C'.1 k = C.1 k) (hN : ∀ k, k ≠ 156 → N'.1 k = N.1 k) (h0 : N'.1 156 0 = N.1 156 0) (h1 : N'.1 156 1 = N.1 156 1) (h2 : N'.1 156 2 = N.1 156 2) (h3 : N'.1 156 3 = N.1 156 3) (hl : C'.2 = C.2) (hl2 : N'.2 = N.2) (hS' : NS C' N') : RN (c + 1) C' N' := by
  obtain ⟨hS, hJ, hL, hF, hA, hP, hW, hV⟩ := h
  have sc : ∀ lo hi, (20 < lo ∨ hi < 20) → same lo hi C C' := fun lo hi q k x y => ⟨hC k (by omega), by rw [hl]⟩
  have sn : ∀ lo hi, (156 < lo ∨ hi < 156) → same lo hi N N' := fun lo hi q k x y => ⟨hN k (by omega), by rw [hl2]⟩
  exact ⟨hS', NJ_fr hJ hS.1.2.2 h0 (sc _ _ (by omega)) (sn _ _ (by omega)), NL_fr hL hS.2.1.2.2 h1 (sc _ _ (by omega)) (hN _ (by omega)), NF_fr hF (hC _ (by omega)), NA_fr hA (by omega) hS.2.2.1.2.2 h2 (sc _ _ (by omega)) (sn _ _ (by omega)), NP_fr hP h3 (hC _ (by omega)) (hC _ (by omega)) (hN _ (by omega)) (hN _ (by omega)), NW_fr hW (hC _ (by omega)) (hN _ (by omega)), NV_fr hV (by omega) (hC _ (by omega)) (hC _ (by omega)) (hN _ (by omega)) (fun j _ => by rw [hN _ (by omega)]) (by rw [h0]; omega) (by rw [h2]; omega)⟩
theorem Rel_sc {c : Nat} {C N : Mem} (h : Rel c C N) (f i : Nat) (v w : Int32) (hf : f ≠ 1) (hi : i ≠ 0 ∧ i ≠ 1 ∧ i ≠ 2 ∧ i ≠ 3) (hS' : NS (wI C 20 f v) (wI N 156 i w)) : Rel (c + 1) (wI C 20 f v) (wI N 156 i w) :=
  Rel_RN h (same_wI (by omega)) (same_wI (by omega)) (same_wI (by omega)) (wI_row _ _ _ _ (by omega)) (same_wI (by omega)) (by rw [mem_fst (by omega)]; omega) (RN_sc h.1 (fun k hk => wI_row _ _ _ _ hk) (fun k hk => wI_row _ _ _ _ hk) (mem_fst (by omega)) (mem_fst (by omega)) (mem_fst (by omega)) (mem_fst (by omega)) rfl rfl hS')
-- seed
theorem op_seed {c : Nat} {C N : Mem} (h : Rel c C N) (a1 : Int32) : Sim c (fc_seed C a1) (fm_seed N a1) := by
  obtain ⟨⟨hS, hJ, hL, hF, hA, hP, hW, hV⟩, -⟩ := id h
  obtain ⟨⟨e0, b0⟩, ⟨e1, b1⟩, ⟨e2, b2⟩, ⟨e3, b3⟩, ⟨e5, b5⟩, ⟨e6, b6⟩, ⟨e7, b7⟩, ⟨e4, b4⟩, e8⟩ := id hS
  obtain ⟨l0, u0⟩ := id b0
  obtain ⟨l1, u1⟩ := id b1
  obtain ⟨l2, u2⟩ := id b2
  obtain ⟨l3, u3⟩ := id b3
  obtain ⟨l5, u5⟩ := id b5
  obtain ⟨l6, u6⟩ := id b6
  obtain ⟨l7, u7⟩ := id b7
  obtain ⟨l4, u4⟩ := id b4
  apply sim_i (r := N.1 156 8) (C' := wI C 20 15 a1) (N' := wI N 156 8 a1)
  · rw [← e8]; rfl
  · rfl
  · refine Rel_sc h 15 8 a1 a1 (by omega) (by omega) ?_
    unfold NS
    simp [wI_1, *]
-- force
theorem op_force {c : Nat} {C N : Mem} (h : Rel c C N) (a1 : Int32) : Sim c (fc_force C a1) (fm_force N a1) := by
  obtain ⟨⟨hS, hJ, hL, hF, hA, hP, hW, hV⟩, -⟩ := id h
  obtain ⟨⟨e0, b0⟩, ⟨e1, b1⟩, ⟨e2, b2⟩, ⟨e3, b3⟩, ⟨e5, b5⟩, ⟨e6, b6⟩, ⟨e7, b7⟩, ⟨e4, b4⟩, e8⟩ := id hS
  obtain ⟨l0, u0⟩ := id b0
  obtain ⟨l1, u1⟩ := id b1
  obtain ⟨l2, u2⟩ := id b2
  obtain ⟨l3, u3⟩ := id b3
  obtain ⟨l5, u5⟩ := id b5
  obtain ⟨l6, u6⟩ := id b6
  obtain ⟨l7, u7⟩ := id b7
  obtain ⟨l4, u4⟩ := id b4
  have hk : -1 ≤ a1.toInt ∧ a1.toInt < (N.1 156 1).toInt → Rel (c + 1) (wI C 20 4 a1) (wI N 156 4 a1) := by
    intro hh
    refine Rel_sc h 4 4 a1 a1 (by omega) (by omega) ?_
    unfold NS
    simp [wI_1, *]
  by_cases hm : a1 = -1
  · apply sim_i (r := N.1 156 4) (C' := wI C 20 4 a1) (N' := wI N 156 4 a1)
    · unfold fc_force; rw [if_pos hm, ← e4]; rfl
    · unfold fm_force; rw [if_pos hm]; rfl
    · refine hk ?_
      rw [hm]; simp only [Int32.reduceToInt]; omega
  · by_cases hb : a1.toInt < 0 ∨ (N.1 156 1).toInt ≤ a1.toInt
    · refine sim_2 h ?_ ?_
      · unfold fc_force; rw [if_neg hm, if_pos (by rw [law_0, e1]; exact hb), bind_eta]
      · unfold fm_force; rw [if_neg hm, if_pos (by rw [mlaw_0]; exact hb), bind_eta]
    · apply sim_i (r := N.1 156 4) (C' := wI C 20 4 a1) (N' := wI N 156 4 a1)
      · unfold fc_force; rw [if_neg hm, if_neg (by rw [law_0, e1]; exact hb), ← e4]; rfl
      · unfold fm_force; rw [if_neg hm, if_neg (by rw [mlaw_0]; exact hb)]; rfl
      · exact hk (by omega)
-- wind
theorem op_wind {c : Nat} {C N : Mem} (h : Rel c C N) (a1 a2 : Int32) : Sim c (fc_wind C a1 a2) (fm_wind N a1 a2) := by
  obtain ⟨⟨hS, hJ, hL, hF, hA, hP, hW, hV⟩, -⟩ := id h
  obtain ⟨⟨e0, b0⟩, ⟨e1, b1⟩, ⟨e2, b2⟩, ⟨e3, b3⟩, ⟨e5, b5⟩, ⟨e6, b6⟩, ⟨e7, b7⟩, ⟨e4, b4⟩, e8⟩ := id hS
  obtain ⟨l0, u0⟩ := id b0
  obtain ⟨l1, u1⟩ := id b1
  obtain ⟨l2, u2⟩ := id b2
  obtain ⟨l3, u3⟩ := id b3
  obtain ⟨l5, u5⟩ := id b5
  obtain ⟨l6, u6⟩ := id b6
  obtain ⟨l7, u7⟩ := id b7
  obtain ⟨l4, u4⟩ := id b4
  by_cases hb : (a1.toInt < 0 ∨ 12 ≤ a1.toInt) ∨ (a2.toInt < 0 ∨ 9 < a2.toInt)
  · refine sim_2 h ?_ ?_
    · unfold fc_wind
      simp only [bind_eta, mlet_e, ilet_e, llet_e, jlet_e, shelf_0, below_0, within_0, hour_0, jetty_0, law_0, leaper_0, mshelf_0, mhour_0, mspot_0, mlevel_0, mfall_0, mjetty_0, mlaw_0, mleaper_0, ix_0, ix_1, ix_2, ix_3, ix_4, ix_5, ix_6, ix_7, ix_8, ix_9]
      simp only [t_lt, t_le, Int32.reduceToInt, ix_0, ix_1, ix_2, ix_3, ix_4, ix_5, ix_6, ix_7, ix_8, ix_9]
      repeat' split
      all_goals first | rfl | (exfalso; omega)
    · unfold fm_wind
      simp only [bind_eta, mlet_e, ilet_e, llet_e, jlet_e, shelf_0, below_0, within_0, hour_0, jetty_0, law_0, leaper_0, mshelf_0, mhour_0, mspot_0, mlevel_0, mfall_0, mjetty_0, mlaw_0, mleaper_0, ix_0, ix_1, ix_2, ix_3, ix_4, ix_5, ix_6, ix_7, ix_8, ix_9]
      simp only [t_lt, t_le, Int32.reduceToInt, ix_0, ix_1, ix_2, ix_3, ix_4, ix_5, ix_6, ix_7, ix_8, ix_9]
      repeat' split
      all_goals first | rfl | (exfalso; omega)
  · have hi := t_ix (a := a1) (by omega)
    have hin : inb a1 12 := b_in (by omega) (by omega)
    obtain ⟨w1, w2⟩ := hW (ix a1) (by omega)
    apply sim_i (r := N.1 155 (ix a1)) (C' := wI C 66 (ix a1) a2) (N' := wI N 155 (ix a1) a2)
    · unfold fc_wind
      rw [if_neg (by rw [hour_0]; omega), if_neg (by rw [within_0]; simp only [Int32.reduceToInt]; omega), gd_t hin, ilet_e, gd_t hin, mlet_e, w1]
    · unfold fm_wind
      rw [if_neg (by rw [mhour_0]; omega), if_neg (by rw [t_lt]; simp only [Int32.reduceToInt]; omega), if_pos (by rw [t_le]; simp only [Int32.reduceToInt]; omega), gd_t hin, ilet_e, gd_t hin, mlet_e]
    · refine Rel_RN h (same_wI (by omega)) (same_wI (by omega)) (same_wI (by omega)) (wI_row _ _ _ _ (by omega)) (same_wI (by omega)) (by rw [mem_fst (by omega)]; omega) ⟨?_, NJ_fr hJ u0 (mem_fst (by omega)) (same_wI (by omega)) (same_wI (by omega)), NL_fr hL u1 (mem_fst (by omega)) (same_wI (by omega)) (wI_row _ _ _ _ (by omega)), NF_fr hF (wI_row _ _ _ _ (by omega)), NA_fr hA (by omega) u2 (mem_fst (by omega)) (same_wI (by omega)) (same_wI (by omega)), NP_fr hP (mem_fst (by omega)) (wI_row _ _ _ _ (by omega)) (wI_row _ _ _ _ (by omega)) (wI_row _ _ _ _ (by omega)) (wI_row _ _ _ _ (by omega)), ?_, NV_fr hV (by omega) (wI_row _ _ _ _ (by omega)) (wI_row _ _ _ _ (by omega)) (wI_row _ _ _ _ (by omega)) (fun j _ => mem_fst (by omega)) (by rw [mem_fst (by omega)]; omega) (by rw [mem_fst (by omega)]; omega)⟩
      · unfold NS at hS ⊢
        simp only [wI_row C 66 _ _ (show (20 : Nat) ≠ 66 by omega), wI_row N 155 _ _ (show (156 : Nat) ≠ 155 by omega)]
        exact hS
      · intro q hq
        by_cases e : q = ix a1
        · subst e; rw [wI_s, wI_s]; exact ⟨rfl, by unfold bd; omega⟩
        · rw [mem_fst (by omega), mem_fst (by omega)]; exact hW q hq
-- lake
theorem fc_lake_0 (C : Mem) (a2 : Int32) : fc_lake C 0 a2 = if a2.toInt < -50 ∨ 50 < a2.toInt then fc_refuse C (-2) else some (if C.1 20 12 = a2 then 0 else 1, wI C 20 12 a2) := by
  have hh : (a2.toInt < -50 ∨ 50 < a2.toInt) ∨ (-50 ≤ a2.toInt ∧ a2.toInt ≤ 50) := by omega
  by_cases hq : C.1 20 12 = a2
  · rcases hh with h | h
    · have h' : a2.toInt < -50 ∨ 51 ≤ a2.toInt := by omega
      simp [fc_lake, jlet_e, bind_eta, within_0, below_0, Int32.reduceToInt, h, h']
    · have h1 : ¬ (a2.toInt < -50 ∨ 50 < a2.toInt) := by omega
      have h2 : ¬ (a2.toInt < -50 ∨ 51 ≤ a2.toInt) := by omega
      simp [fc_lake, jlet_e, bind_eta, within_0, below_0, Int32.reduceToInt, h1, h2, mlet_e, ilet_e, hq, num_f]
  · rcases hh with h | h
    · have h' : a2.toInt < -50 ∨ 51 ≤ a2.toInt := by omega
      simp [fc_lake, jlet_e, bind_eta, within_0, below_0, Int32.reduceToInt, h, h']
    · have h1 : ¬ (a2.toInt < -50 ∨ 50 < a2.toInt) := by omega
      have h2 : ¬ (a2.toInt < -50 ∨ 51 ≤ a2.toInt) := by omega
      simp [fc_lake, jlet_e, bind_eta, within_0, below_0, Int32.reduceToInt, h1, h2, mlet_e, ilet_e, hq, num_t]
theorem fm_lake_0 (N : Mem) (a2 : Int32) : fm_lake N 0 a2 = if a2.toInt < -50 ∨ 50 < a2.toInt then fm_no N (-2) else some (if N.1 156 5 = a2 then 0 else 1, wI N 156 5 a2) := by
  have e : ix ((5 : Int32) + 0) = 5 := rfl
  have g : inb ((5 : Int32) + 0) 9 := rfl
  have e' : ix 5 = 5 := rfl
  have g' : inb 5 9 := rfl
  by_cases h : a2.toInt < -50 ∨ 50 < a2.toInt
  · rcases h with h | h
    · have h' : ¬ (-50 ≤ a2.toInt) := by omega
      simp [fm_lake, jlet_e, bind_eta, mspot_0, mlevel_0, t_lt, t_le, Int32.reduceToInt, h]
    · have h1 : ¬ a2.toInt < -50 := by omega
      have h2 : 51 ≤ a2.toInt := by omega
      simp [fm_lake, jlet_e, bind_eta, mspot_0, mlevel_0, t_lt, t_le, Int32.reduceToInt, h, h1, h2]
  · have h1 : ¬ a2.toInt < -50 := by omega
    have h2 : ¬ 50 < a2.toInt := by omega
    have h3 : ¬ 51 ≤ a2.toInt := by omega
    by_cases hq : N.1 156 5 = a2
    · simp [fm_lake, jlet_e, bind_eta, mspot_0, mlevel_0, t_lt, t_le, Int32.reduceToInt, h1, h2, h3, mlet_e, ilet_e, e, e', gd_t g, gd_t g', hq]
    · simp [fm_lake, jlet_e, bind_eta, mspot_0, mlevel_0, t_lt, t_le, Int32.reduceToInt, h1, h2, h3, mlet_e, ilet_e, e, e', gd_t g, gd_t g', hq]
theorem fc_lake_1 (C : Mem) (a2 : Int32) : fc_lake C 1 a2 = if a2.toInt < 0 ∨ 60 < a2.toInt then fc_refuse C (-2) else some (if C.1 20 13 = a2 then 0 else 1, wI C 20 13 a2) := by
  have hh : (a2.toInt < 0 ∨ 60 < a2.toInt) ∨ (0 ≤ a2.toInt ∧ a2.toInt ≤ 60) := by omega
  by_cases hq : C.1 20 13 = a2
  · rcases hh with h | h
    · have h' : a2.toInt < 0 ∨ 61 ≤ a2.toInt := by omega
      simp [fc_lake, jlet_e, bind_eta, within_0, below_0, Int32.reduceToInt, h, h']
    · have h1 : ¬ (a2.toInt < 0 ∨ 60 < a2.toInt) := by omega
      have h2 : ¬ (a2.toInt < 0 ∨ 61 ≤ a2.toInt) := by omega
      simp [fc_lake, jlet_e, bind_eta, within_0, below_0, Int32.reduceToInt, h1, h2, mlet_e, ilet_e, hq, num_f]
  · rcases hh with h | h
    · have h' : a2.toInt < 0 ∨ 61 ≤ a2.toInt := by omega
      simp [fc_lake, jlet_e, bind_eta, within_0, below_0, Int32.reduceToInt, h, h']
    · have h1 : ¬ (a2.toInt < 0 ∨ 60 < a2.toInt) := by omega
      have h2 : ¬ (a2.toInt < 0 ∨ 61 ≤ a2.toInt) := by omega
      simp [fc_lake, jlet_e, bind_eta, within_0, below_0, Int32.reduceToInt, h1, h2, mlet_e, ilet_e, hq, num_t]
theorem fm_lake_1 (N : Mem) (a2 : Int32) : fm_lake N 1 a2 = if a2.toInt < 0 ∨ 60 < a2.toInt then fm_no N (-2) else some (if N.1 156 6 = a2 then 0 else 1, wI N 156 6 a2) := by
  have e : ix ((5 : Int32) + 1) = 6 := rfl
  have g : inb ((5 : Int32) + 1) 9 := rfl
  have e' : ix 6 = 6 := rfl
  have g' : inb 6 9 := rfl
  by_cases h : a2.toInt < 0 ∨ 60 < a2.toInt
  · rcases h with h | h
    · have h' : ¬ (0 ≤ a2.toInt) := by omega
      simp [fm_lake, jlet_e, bind_eta, mspot_0, mlevel_0, t_lt, t_le, Int32.reduceToInt, h]
    · have h1 : ¬ a2.toInt < 0 := by omega
      have h2 : 61 ≤ a2.toInt := by omega
      simp [fm_lake, jlet_e, bind_eta, mspot_0, mlevel_0, t_lt, t_le, Int32.reduceToInt, h, h1, h2]
  · have h1 : ¬ a2.toInt < 0 := by omega
    have h2 : ¬ 60 < a2.toInt := by omega
    have h3 : ¬ 61 ≤ a2.toInt := by omega
    by_cases hq : N.1 156 6 = a2
    · simp [fm_lake, jlet_e, bind_eta, mspot_0, mlevel_0, t_lt, t_le, Int32.reduceToInt, h1, h2, h3, mlet_e, ilet_e, e, e', gd_t g, gd_t g', hq]
    · simp [fm_lake, jlet_e, bind_eta, mspot_0, mlevel_0, t_lt, t_le, Int32.reduceToInt, h1, h2, h3, mlet_e, ilet_e, e, e', gd_t g, gd_t g', hq]
theorem fc_lake_2 (C : Mem) (a2 : Int32) : fc_lake C 2 a2 = if a2.toInt < 0 ∨ 255 < a2.toInt then fc_refuse C (-2) else some (if C.1 20 14 = a2 then 0 else 1, wI C 20 14 a2) := by
  have hh : (a2.toInt < 0 ∨ 255 < a2.toInt) ∨ (0 ≤ a2.toInt ∧ a2.toInt ≤ 255) := by omega
  by_cases hq : C.1 20 14 = a2
  · rcases hh with h | h
    · have h' : a2.toInt < 0 ∨ 256 ≤ a2.toInt := by omega
      simp [fc_lake, jlet_e, bind_eta, within_0, below_0, Int32.reduceToInt, h, h']
    · have h1 : ¬ (a2.toInt < 0 ∨ 255 < a2.toInt) := by omega
      have h2 : ¬ (a2.toInt < 0 ∨ 256 ≤ a2.toInt) := by omega
      simp [fc_lake, jlet_e, bind_eta, within_0, below_0, Int32.reduceToInt, h1, h2, mlet_e, ilet_e, hq, num_f]
  · rcases hh with h | h
    · have h' : a2.toInt < 0 ∨ 256 ≤ a2.toInt := by omega
      simp [fc_lake, jlet_e, bind_eta, within_0, below_0, Int32.reduceToInt, h, h']
    · have h1 : ¬ (a2.toInt < 0 ∨ 255 < a2.toInt) := by omega
      have h2 : ¬ (a2.toInt < 0 ∨ 256 ≤ a2.toInt) := by omega
      simp [fc_lake, jlet_e, bind_eta, within_0, below_0, Int32.reduceToInt, h1, h2, mlet_e, ilet_e, hq, num_t]
theorem fm_lake_2 (N : Mem) (a2 : Int32) : fm_lake N 2 a2 = if a2.toInt < 0 ∨ 255 < a2.toInt then fm_no N (-2) else some (if N.1 156 7 = a2 then 0 else 1, wI N 156 7 a2) := by
  have e : ix ((5 : Int32) + 2) = 7 := rfl
  have g : inb ((5 : Int32) + 2) 9 := rfl
  have e' : ix 7 = 7 := rfl
  have g' : inb 7 9 := rfl
  by_cases h : a2.toInt < 0 ∨ 255 < a2.toInt
  · rcases h with h | h
    · have h' : ¬ (0 ≤ a2.toInt) := by omega
      simp [fm_lake, jlet_e, bind_eta, mspot_0, mlevel_0, t_lt, t_le, Int32.reduceToInt, h]
    · have h1 : ¬ a2.toInt < 0 := by omega
      have h2 : 256 ≤ a2.toInt := by omega
      simp [fm_lake, jlet_e, bind_eta, mspot_0, mlevel_0, t_lt, t_le, Int32.reduceToInt, h, h1, h2]
  · have h1 : ¬ a2.toInt < 0 := by omega
    have h2 : ¬ 255 < a2.toInt := by omega
    have h3 : ¬ 256 ≤ a2.toInt := by omega
    by_cases hq : N.1 156 7 = a2
    · simp [fm_lake, jlet_e, bind_eta, mspot_0, mlevel_0, t_lt, t_le, Int32.reduceToInt, h1, h2, h3, mlet_e, ilet_e, e, e', gd_t g, gd_t g', hq]
    · simp [fm_lake, jlet_e, bind_eta, mspot_0, mlevel_0, t_lt, t_le, Int32.reduceToInt, h1, h2, h3, mlet_e, ilet_e, e, e', gd_t g, gd_t g', hq]
theorem op_lake {c : Nat} {C N : Mem} (h : Rel c C N) (a1 a2 : Int32) : Sim c (fc_lake C a1 a2) (fm_lake N a1 a2) := by
  obtain ⟨⟨hS, hJ, hL, hF, hA, hP, hW, hV⟩, -⟩ := id h
  obtain ⟨⟨e0, b0⟩, ⟨e1, b1⟩, ⟨e2, b2⟩, ⟨e3, b3⟩, ⟨e5, b5⟩, ⟨e6, b6⟩, ⟨e7, b7⟩, ⟨e4, b4⟩, e8⟩ := id hS
  obtain ⟨l0, u0⟩ := id b0
  obtain ⟨l1, u1⟩ := id b1
  obtain ⟨l2, u2⟩ := id b2
  obtain ⟨l3, u3⟩ := id b3
  obtain ⟨l5, u5⟩ := id b5
  obtain ⟨l6, u6⟩ := id b6
  obtain ⟨l7, u7⟩ := id b7
  obtain ⟨l4, u4⟩ := id b4
  by_cases q0 : a1 = 0
  · subst q0
    rw [fc_lake_0, fm_lake_0, e5]
    split
    · exact sim_2 h rfl rfl
    · refine sim_i rfl rfl (Rel_sc h 12 5 a2 a2 (by omega) (by omega) ?_)
      unfold NS
      simp [wI_1, *, bd]
      all_goals omega
  · by_cases q1 : a1 = 1
    · subst q1
      rw [fc_lake_1, fm_lake_1, e6]
      split
      · exact sim_2 h rfl rfl
      · refine sim_i rfl rfl (Rel_sc h 13 6 a2 a2 (by omega) (by omega) ?_)
        unfold NS
        simp [wI_1, *, bd]
        all_goals omega
    · by_cases q2 : a1 = 2
      · subst q2
        rw [fc_lake_2, fm_lake_2, e7]
        split
        · exact sim_2 h rfl rfl
        · refine sim_i rfl rfl (Rel_sc h 14 7 a2 a2 (by omega) (by omega) ?_)
          unfold NS
          simp [wI_1, *, bd]
          all_goals omega
      · refine sim_2 h ?_ ?_
        · simp [fc_lake, jlet_e, bind_eta, q0, q1, q2]
        · have p0 : ¬ a1.toInt = 0 := fun q => q0 (t_eq.mpr q)
          have p1 : ¬ a1.toInt = 1 := fun q => q1 (t_eq.mpr q)
          have p2 : ¬ a1.toInt = 2 := fun q => q2 (t_eq.mpr q)
          unfold fm_lake
          simp only [bind_eta, t_lt, t_le, Int32.reduceToInt]
          split
          · rfl
          · rw [if_neg (by omega)]
-- wipe
theorem op_wipe {c : Nat} {C N : Mem} (h : Rel c C N) : Sim c (fc_wipe C) (fm_wipe N) := by
  obtain ⟨a, b, ⟨d1, d2, d3⟩, e, f, g, k⟩ := h
  apply sim_i (r := N.1 138 8) (C' := wI C 18 1 0) (N' := wI N 138 8 0)
  · rw [← d1]; rfl
  · rfl
  · refine ⟨RN_up (RN_fr a (same_wI (by omega)) (same_wI (by omega)) (same_wI (by omega))) (Nat.le_succ c), RS_fr b (same_wI (by omega)) (same_wI (by omega)) (mem_fst (by omega)), ⟨by simp [wI_1], ?_, ?_⟩, RF_fr e (wI_row _ _ _ _ (by omega)) (wI_row _ _ _ _ (by omega)), RX_fr f (wI_row _ _ _ _ (by omega)) (wI_row _ _ _ _ (by omega)), KF_fr g (wI_row _ _ _ _ (by omega)), RI_up (RI_fr k (mem_fst (by omega)) (mem_fst (by omega)) (same_wI (by omega)) (wI_row _ _ _ _ (by omega))) (Nat.le_succ c)⟩
    · simp [wI_1, bd]
    · intro i hi
      simp [wI_1] at hi
      omega
