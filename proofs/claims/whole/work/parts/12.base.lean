theorem bind_eta {α β : Type} (x : Option (α × β)) : Option.bind x (fun u => some (u.1, u.2)) = x := by cases x <;> rfl
theorem li_0 : (0 : Int32).toInt = 0 := rfl
theorem li_1 : (1 : Int32).toInt = 1 := rfl
theorem li_m1 : (-1 : Int32).toInt = -1 := rfl
theorem below_0 {M : Mem} {v b : Int32} : fc_isBelowT M v b = 0 ↔ v.toInt < 0 ∨ b.toInt ≤ v.toInt := by
  unfold fc_isBelowT
  split
  · simp_all [t_lt, Int32.reduceToInt]
  · split <;> simp_all [t_lt, t_le, Int32.reduceToInt]
theorem within_0 {M : Mem} {v a b : Int32} : fc_isWithinT M v a b = 0 ↔ v.toInt < a.toInt ∨ b.toInt < v.toInt := by
  unfold fc_isWithinT
  split
  · simp_all [t_lt]
  · split <;> simp_all [t_lt, t_le]
theorem bad_2 (C : Mem) : fc_refuse C (-2) = some (-2, wI C 118 0 (C.1 118 0 + 1)) := rfl
theorem bad_3 (C : Mem) : fc_refuse C (-3) = some (-3, wI C 118 1 (C.1 118 1 + 1)) := rfl
theorem bad_4 (C : Mem) : fc_refuse C (-4) = some (-4, wI C 118 2 (C.1 118 2 + 1)) := rfl
theorem bad_5 (C : Mem) : fc_refuse C (-5) = some (-5, wI C 118 3 (C.1 118 3 + 1)) := rfl
theorem bad_6 (C : Mem) : fc_refuse C (-6) = some (-6, wI C 118 4 (C.1 118 4 + 1)) := rfl
theorem no_2 (N : Mem) : fm_no N (-2) = some (-2, wI N 158 2 (N.1 158 2 + 1)) := rfl
theorem no_3 (N : Mem) : fm_no N (-3) = some (-3, wI N 158 3 (N.1 158 3 + 1)) := rfl
theorem no_4 (N : Mem) : fm_no N (-4) = some (-4, wI N 158 4 (N.1 158 4 + 1)) := rfl
theorem no_5 (N : Mem) : fm_no N (-5) = some (-5, wI N 158 5 (N.1 158 5 + 1)) := rfl
theorem no_6 (N : Mem) : fm_no N (-6) = some (-6, wI N 158 6 (N.1 158 6 + 1)) := rfl
/-- two runs that answer alike, and what they leave behind -/
def Sim (c : Nat) (x y : Option (Int32 × Mem)) : Prop := ∃ r C' N', x = some (r, C') ∧ y = some (r, N') ∧ Rel (c + 1) C' N'
theorem sim_i {c : Nat} {x y : Option (Int32 × Mem)} {r : Int32} {C' N' : Mem} (hx : x = some (r, C')) (hy : y = some (r, N')) (hR : Rel (c + 1) C' N') : Sim c x y := ⟨r, C', N', hx, hy, hR⟩
/-- memories that differ in the class's row k alone, and in the reference's row n alone -/
theorem Rel_mem {c : Nat} {C N C' N' : Mem} (h : Rel c C N) (h1 : same 0 117 C C') (h2 : C'.1 128 = C.1 128) (h3 : C'.1 134 = C.1 134) (h4 : same 138 157 N N') (h5 : N'.1 159 = N.1 159) (hF : RF C' N') : Rel (c + 1) C' N' := by
  obtain ⟨a, b, d, e, f, g, k⟩ := h
  have hr := fun k (h : k ≤ 117) => (h1 k (Nat.zero_le _) h).1
  refine ⟨RN_up (RN_fr a (same_s h1 (by omega) (by omega)) (same_s h4 (by omega) (by omega)) (same_s h4 (by omega) (by omega))) (Nat.le_succ c), RS_fr b (same_s h1 (by omega) (by omega)) (same_s h4 (by omega) (by omega)) (by rw [hr 20 (by omega)]), RT_fr d (by rw [hr 18 (by omega)]) (hr 19 (by omega)) (by rw [(h4 138 (by omega) (by omega)).1]) (h4 147 (by omega) (by omega)).1, hF, RX_fr f h2 h3, KF_fr g (hr 105 (by omega)), RI_up (RI_fr k (by rw [hr 0 (by omega)]) (by rw [(h4 138 (by omega) (by omega)).1]) (same_s h1 (by omega) (by omega)) h5) (Nat.le_succ c)⟩
/-- nothing is changed but scratch -/
theorem Rel_same {c : Nat} {C N C' N' : Mem} (h : Rel c C N) (h1 : same 0 118 C C') (h2 : C'.1 128 = C.1 128) (h3 : C'.1 134 = C.1 134) (h4 : same 138 159 N N') : Rel (c + 1) C' N' :=
  Rel_mem h (same_s h1 (by omega) (by omega)) h2 h3 (same_s h4 (by omega) (by omega)) (h4 159 (by omega) (by omega)).1 (RF_fr h.2.2.2.1 (h1 118 (by omega) (by omega)).1 (h4 158 (by omega) (by omega)).1)
theorem Rel_ref {c : Nat} {C N : Mem} (h : Rel c C N) {k : Nat} (hk : k < 5) : Rel (c + 1) (wI C 118 k (C.1 118 k + 1)) (wI N 158 (k + 2) (N.1 158 (k + 2) + 1)) := by
  refine Rel_mem h (same_wI (by omega)) (wI_row _ _ _ _ (by omega)) (wI_row _ _ _ _ (by omega)) (same_wI (by omega)) (wI_row _ _ _ _ (by omega)) ?_
  obtain ⟨f0, f1, f2, f3, f4⟩ := h.2.2.2.1
  unfold RF
  simp only [wI_1]
  rcases (show k = 0 ∨ k = 1 ∨ k = 2 ∨ k = 3 ∨ k = 4 by omega) with rfl | rfl | rfl | rfl | rfl <;> simp_all
theorem sim_2 {c : Nat} {C N : Mem} {x y : Option (Int32 × Mem)} (h : Rel c C N) (hx : x = fc_refuse C (-2)) (hy : y = fm_no N (-2)) : Sim c x y := ⟨_, _, _, hx.trans (bad_2 C), hy.trans (no_2 N), Rel_ref h (k := 0) (by omega)⟩
theorem sim_3 {c : Nat} {C N : Mem} {x y : Option (Int32 × Mem)} (h : Rel c C N) (hx : x = fc_refuse C (-3)) (hy : y = fm_no N (-3)) : Sim c x y := ⟨_, _, _, hx.trans (bad_3 C), hy.trans (no_3 N), Rel_ref h (k := 1) (by omega)⟩
theorem sim_4 {c : Nat} {C N : Mem} {x y : Option (Int32 × Mem)} (h : Rel c C N) (hx : x = fc_refuse C (-4)) (hy : y = fm_no N (-4)) : Sim c x y := ⟨_, _, _, hx.trans (bad_4 C), hy.trans (no_4 N), Rel_ref h (k := 2) (by omega)⟩
theorem sim_5 {c : Nat} {C N : Mem} {x y : Option (Int32 × Mem)} (h : Rel c C N) (hx : x = fc_refuse C (-5)) (hy : y = fm_no N (-5)) : Sim c x y := ⟨_, _, _, hx.trans (bad_5 C), hy.trans (no_5 N), Rel_ref h (k := 3) (by omega)⟩
theorem sim_6 {c : Nat} {C N : Mem} {x y : Option (Int32 × Mem)} (h : Rel c C N) (hx : x = fc_refuse C (-6)) (hy : y = fm_no N (-6)) : Sim c x y := ⟨_, _, _, hx.trans (bad_6 C), hy.trans (no_6 N), Rel_ref h (k := 4) (by omega)⟩
/-- nothing changes -/
theorem Rel_next {c : Nat} {C N : Mem} (h : Rel c C N) : Rel (c + 1) C N := Rel_up h (Nat.le_succ c)
theorem mshelf_0 {M : Mem} {v : Int32} : fm_isShelfT M v = 0 ↔ v.toInt < 0 ∨ 8 ≤ v.toInt := by
  unfold fm_isShelfT
  split
  · simp_all [t_lt, Int32.reduceToInt]
  · split <;> simp_all [t_lt, t_le, Int32.reduceToInt]
theorem mhour_0 {M : Mem} {v : Int32} : fm_isHourT M v = 0 ↔ v.toInt < 0 ∨ 12 ≤ v.toInt := by
  unfold fm_isHourT
  split
  · simp_all [t_lt, Int32.reduceToInt]
  · split <;> simp_all [t_lt, t_le, Int32.reduceToInt]
theorem mspot_0 {M : Mem} {v : Int32} : fm_isSpotT M v = 0 ↔ v.toInt < 0 ∨ 256 ≤ v.toInt := by
  unfold fm_isSpotT
  split
  · simp_all [t_lt, Int32.reduceToInt]
  · split <;> simp_all [t_lt, t_le, Int32.reduceToInt]
theorem mlevel_0 {M : Mem} {v : Int32} : fm_isLevelT M v = 0 ↔ v.toInt < -50 ∨ 50 < v.toInt := by
  unfold fm_isLevelT
  split
  · simp_all [t_lt, Int32.reduceToInt]
  · split <;> simp_all [t_lt, t_le, Int32.reduceToInt]
theorem mfall_0 {M : Mem} {v : Int32} : fm_isFallT M v = 0 ↔ v.toInt < 1 ∨ 20 < v.toInt := by
  unfold fm_isFallT
  split
  · simp_all [t_lt, Int32.reduceToInt]
  · split <;> simp_all [t_lt, t_le, Int32.reduceToInt]
theorem mjetty_0 {M : Mem} {v : Int32} : fm_isJettyT M v = 0 ↔ v.toInt < 0 ∨ (M.1 156 0).toInt ≤ v.toInt := by
  unfold fm_isJettyT
  show (if v < 0 then (0 : Int32) else if M.1 156 0 ≤ v then 0 else 1) = 0 ↔ _
  split
  · simp_all [t_lt, Int32.reduceToInt]
  · split <;> simp_all [t_lt, t_le, Int32.reduceToInt]
theorem mlaw_0 {M : Mem} {v : Int32} : fm_isLawT M v = 0 ↔ v.toInt < 0 ∨ (M.1 156 1).toInt ≤ v.toInt := by
  unfold fm_isLawT
  show (if v < 0 then (0 : Int32) else if M.1 156 1 ≤ v then 0 else 1) = 0 ↔ _
  split
  · simp_all [t_lt, Int32.reduceToInt]
  · split <;> simp_all [t_lt, t_le, Int32.reduceToInt]
theorem mleaper_0 {M : Mem} {v : Int32} : fm_isLeaperT M v = 0 ↔ v.toInt < 0 ∨ (M.1 156 2).toInt ≤ v.toInt := by
  unfold fm_isLeaperT
  show (if v < 0 then (0 : Int32) else if M.1 156 2 ≤ v then 0 else 1) = 0 ↔ _
  split
  · simp_all [t_lt, Int32.reduceToInt]
  · split <;> simp_all [t_lt, t_le, Int32.reduceToInt]
theorem shelf_0 {M : Mem} {v : Int32} : fc_isShelfT M v = 0 ↔ v.toInt < 0 ∨ 8 ≤ v.toInt := below_0
theorem hour_0 {M : Mem} {v : Int32} : fc_isHourT M v = 0 ↔ v.toInt < 0 ∨ 12 ≤ v.toInt := below_0
theorem jetty_0 {M : Mem} {v : Int32} : fc_isJettyT M v = 0 ↔ v.toInt < 0 ∨ (M.1 20 1).toInt ≤ v.toInt := below_0
theorem law_0 {M : Mem} {v : Int32} : fc_isLawT M v = 0 ↔ v.toInt < 0 ∨ (M.1 20 3).toInt ≤ v.toInt := below_0
theorem leaper_0 {M : Mem} {v : Int32} : fc_isLeaperT M v = 0 ↔ v.toInt < 0 ∨ (M.1 20 7).toInt ≤ v.toInt := below_0
theorem num_t (M : Mem) : fc_toNumberT M 1 = 1 := rfl
theorem num_f (M : Mem) : fc_toNumberT M 0 = 0 := rfl
