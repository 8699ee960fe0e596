theorem row_cp' {M : Mem} {k s a : Nat} {n : Int32} {x : Nat → Int32} (h : M.1 a = x) (hk : a ≠ k) : (cpI M s k 0 0 n).1 a = x := by unfold cpI; rw [rowI_1, if_neg hk]; exact h
theorem el_cp' {M : Mem} {k s a b : Nat} {n : Int32} {x : Int32} (h : M.1 a b = x) (hk : a ≠ k) : (cpI M s k 0 0 n).1 a b = x := by unfold cpI; rw [rowI_1, if_neg hk]; exact h
theorem cp_at {M : Mem} {k s j : Nat} {n : Int32} (h : j < ix n) : (cpI M s k 0 0 n).1 k j = M.1 s j := by
  unfold cpI
  rw [rowI_1, if_pos rfl]
  unfold va_cpy
  rw [ix_0, if_pos (by omega)]
  exact congrArg (M.1 s) (by omega)
theorem become {M : Mem} {m1 m2 m3 : Nat} (h1 : M.1 20 1 = nI m1) (h2 : M.1 20 3 = nI m2) (h3 : M.1 20 7 = nI m3) (b1 : m1 ≤ 20) (b2 : m2 ≤ 6) (b3 : m3 ≤ 6) (hB : ∀ j, j < m1 → isB (M.1 (j + 22) 4)) : ∃ M', fLake_become M = some M' ∧ (∀ q, (q < 69 ∨ 117 < q) → M'.1 q = M.1 q) ∧ M'.1 105 = M.1 105 ∧ M'.2 = M.2 ∧ (∀ f, f = 1 ∨ f = 3 ∨ f = 7 ∨ f = 10 ∨ f = 4 ∨ f = 12 ∨ f = 13 ∨ f = 14 ∨ f = 15 → M'.1 69 f = M.1 20 f) ∧ (∀ j, j < m1 → ∀ f, f < 5 → M'.1 (j + 71) f = M.1 (j + 22) f) ∧ (∀ j, j < m2 → ∀ f, f < 9 → M'.1 (j + 99) f = M.1 (j + 50) f) ∧ (∀ j, j < m3 → ∀ f, f < 3 → M'.1 (j + 107) f = M.1 (j + 58) f) ∧ (∀ j, j < 10 → M'.1 113 j = M.1 64 j ∧ M'.1 114 j = M.1 65 j) ∧ (∀ j, j < 12 → M'.1 115 j = M.1 66 j) ∧ (∀ f, f = 0 ∨ f = 2 ∨ f = 3 ∨ f = 4 ∨ f = 5 ∨ f = 6 ∨ f = 7 → M'.1 116 f = M.1 67 f) ∧ ∀ j, j < 20 → M'.1 117 j = M.1 68 j := by
  obtain ⟨A2, p1, p2, p3, p4⟩ := jb_L b1 (kx := fun M5 => (mlet (wI M5 69 3 (M5.1 20 3)) (fun M6 => (fLake_becomeCounted_L49 (fun M10 => (mlet (wI M10 69 7 (M10.1 20 7)) (fun M11 => (fLake_becomeCounted_L88 (fun M15 => (mlet (wI M15 69 10 (M15.1 20 10)) (fun M16 => (gd (cpokB 0 0 10 10 10) (mlet (cpI M16 64 113 0 0 10) (fun M17 => (gd (cpokB 0 0 10 10 10) (mlet (cpI M17 65 114 0 0 10) (fun M18 => (some M18)))))))))) FU 0 M11)))) FU 0 M6)))) m1 0 (by omega) (wI M 69 1 (M.1 20 1)) (by rw [wI_s, h1]) (fun j hj => by rw [wI_row _ _ _ _ (by omega)]; exact hB j hj) FU (by rw [FU_eq]; omega)
  obtain ⟨A4, q1, q2, q3, q4⟩ := lb_L b2 (kx := fun M10 => (mlet (wI M10 69 7 (M10.1 20 7)) (fun M11 => (fLake_becomeCounted_L88 (fun M15 => (mlet (wI M15 69 10 (M15.1 20 10)) (fun M16 => (gd (cpokB 0 0 10 10 10) (mlet (cpI M16 64 113 0 0 10) (fun M17 => (gd (cpokB 0 0 10 10 10) (mlet (cpI M17 65 114 0 0 10) (fun M18 => (some M18)))))))))) FU 0 M11)))) m2 0 (by omega) (wI A2 69 3 (A2.1 20 3)) (by rw [wI_s, p2 20 (by omega), wI_row _ _ _ _ (by omega), h2]) FU (by rw [FU_eq]; omega)
  obtain ⟨A6, r1, r2, r3, r4⟩ := ab_L b3 (kx := fun M15 => (mlet (wI M15 69 10 (M15.1 20 10)) (fun M16 => (gd (cpokB 0 0 10 10 10) (mlet (cpI M16 64 113 0 0 10) (fun M17 => (gd (cpokB 0 0 10 10 10) (mlet (cpI M17 65 114 0 0 10) (fun M18 => (some M18)))))))))) m3 0 (by omega) (wI A4 69 7 (A4.1 20 7)) (by rw [wI_s, q2 20 (by omega), wI_row _ _ _ _ (by omega), p2 20 (by omega), wI_row _ _ _ _ (by omega), h3]) FU (by rw [FU_eq]; omega)
  have c1 : fLake_becomeCounted M = some (cpI (cpI (wI A6 69 10 (A6.1 20 10)) 64 113 0 0 10) 65 114 0 0 10) := by
    unfold fLake_becomeCounted
    rw [mlet_e]
    refine p1.trans ?_
    rw [mlet_e]
    refine q1.trans ?_
    rw [mlet_e]
    refine r1.trans ?_
    rw [mlet_e, gd_t (by decide), mlet_e, gd_t (by decide), mlet_e]
  -- what the loops leave
  have s2 : ∀ q, (q < 69 ∨ 91 ≤ q) → A2.1 q = M.1 q := fun q hq => (p2 q (by omega)).trans (wI_row _ _ _ _ (by omega))
  have s4 : ∀ q, q ≠ 69 → (q < 99 ∨ 105 ≤ q) → A4.1 q = A2.1 q := fun q hq hq2 => (q2 q (by omega)).trans (wI_row _ _ _ _ hq)
  have s6 : ∀ q, q ≠ 69 → (q < 107 ∨ 113 ≤ q) → A6.1 q = A4.1 q := fun q hq hq2 => (r2 q (by omega)).trans (wI_row _ _ _ _ hq)
  have sr : ∀ q, (q < 69 ∨ 113 ≤ q) → A6.1 q = M.1 q := fun q hq => ((s6 q (by omega) (by omega)).trans (s4 q (by omega) (by omega))).trans (s2 q (by omega))
  have s36 : A6.1 105 = M.1 105 := ((s6 _ (by omega) (by omega)).trans (s4 _ (by omega) (by omega))).trans (s2 _ (by omega))
  have d1 : A6.1 69 1 = M.1 20 1 := by rw [r2 69 (by omega), mem_fst (by omega), q2 69 (by omega), mem_fst (by omega), p2 69 (by omega), wI_s]
  have d3 : A6.1 69 3 = M.1 20 3 := by rw [r2 69 (by omega), mem_fst (by omega), q2 69 (by omega), wI_s, s2 20 (by omega)]
  have d7 : A6.1 69 7 = M.1 20 7 := by rw [r2 69 (by omega), wI_s, s4 20 (by omega) (by omega), s2 20 (by omega)]
  unfold fLake_become
  rw [c1]
  simp only [Option.bind_some]
  rw [gd_t (by decide)]
  unfold fVoyage_become
  simp only [mlet_e, Option.bind_some]
  rw [gd_t (by decide)]
  refine ⟨_, rfl, fun q hq => (by repeat (first | exact sr _ (by omega) | exact s36 | refine row_wI' ?_ (by omega) | refine row_cp' ?_ (by omega))), (by repeat (first | exact sr _ (by omega) | exact s36 | refine row_wI' ?_ (by omega) | refine row_cp' ?_ (by omega))), (r3.trans (q3.trans p3)), fun f hf => ?_, fun j hj f hf => ?_, fun j hj f hf => ?_, fun j hj f hf => ?_, fun j hj => ⟨?_, ?_⟩, fun j hj => ?_, fun f hf => ?_, fun j hj => ?_⟩
  · rcases hf with rfl | rfl | rfl | rfl | rfl | rfl | rfl | rfl | rfl
    · repeat (first | exact d1 | refine el_wI' ?_ (by omega) | refine el_cp' ?_ (by omega))
    · repeat (first | exact d3 | refine el_wI' ?_ (by omega) | refine el_cp' ?_ (by omega))
    · repeat (first | exact d7 | refine el_wI' ?_ (by omega) | refine el_cp' ?_ (by omega))
    · repeat (first | (refine wI_s.trans ?_; exact congrFun (by repeat (first | exact sr _ (by omega) | exact s36 | refine row_wI' ?_ (by omega) | refine row_cp' ?_ (by omega))) _) | refine el_wI' ?_ (by omega) | refine el_cp' ?_ (by omega))
    · repeat (first | (refine wI_s.trans ?_; exact congrFun (by repeat (first | exact sr _ (by omega) | exact s36 | refine row_wI' ?_ (by omega) | refine row_cp' ?_ (by omega))) _) | refine el_wI' ?_ (by omega) | refine el_cp' ?_ (by omega))
    · repeat (first | (refine wI_s.trans ?_; exact congrFun (by repeat (first | exact sr _ (by omega) | exact s36 | refine row_wI' ?_ (by omega) | refine row_cp' ?_ (by omega))) _) | refine el_wI' ?_ (by omega) | refine el_cp' ?_ (by omega))
    · repeat (first | (refine wI_s.trans ?_; exact congrFun (by repeat (first | exact sr _ (by omega) | exact s36 | refine row_wI' ?_ (by omega) | refine row_cp' ?_ (by omega))) _) | refine el_wI' ?_ (by omega) | refine el_cp' ?_ (by omega))
    · repeat (first | (refine wI_s.trans ?_; exact congrFun (by repeat (first | exact sr _ (by omega) | exact s36 | refine row_wI' ?_ (by omega) | refine row_cp' ?_ (by omega))) _) | refine el_wI' ?_ (by omega) | refine el_cp' ?_ (by omega))
    · repeat (first | (refine wI_s.trans ?_; exact congrFun (by repeat (first | exact sr _ (by omega) | exact s36 | refine row_wI' ?_ (by omega) | refine row_cp' ?_ (by omega))) _) | refine el_wI' ?_ (by omega) | refine el_cp' ?_ (by omega))
  · repeat (first | exact (((congrFun ((s6 _ (by omega) (by omega)).trans (s4 _ (by omega) (by omega))) f).trans (p4 j (by omega) hj f hf)).trans (congrFun (wI_row _ _ _ _ (by omega)) f)) | refine el_wI' ?_ (by omega) | refine el_cp' ?_ (by omega))
  · repeat (first | exact (((congrFun (s6 _ (by omega) (by omega)) f).trans (q4 j (by omega) hj f hf)).trans (congrFun ((wI_row _ _ _ _ (by omega)).trans (s2 _ (by omega))) f)) | refine el_wI' ?_ (by omega) | refine el_cp' ?_ (by omega))
  · repeat (first | exact ((r4 j (by omega) hj f hf).trans (congrFun ((wI_row _ _ _ _ (by omega)).trans ((s4 _ (by omega) (by omega)).trans (s2 _ (by omega)))) f)) | refine el_wI' ?_ (by omega) | refine el_cp' ?_ (by omega))
  · repeat (first | (refine (cp_at (show j < ix 10 from hj)).trans ?_; exact congrFun (by repeat (first | exact sr _ (by omega) | exact s36 | refine row_wI' ?_ (by omega) | refine row_cp' ?_ (by omega))) _) | refine el_wI' ?_ (by omega) | refine el_cp' ?_ (by omega))
  · repeat (first | (refine (cp_at (show j < ix 10 from hj)).trans ?_; exact congrFun (by repeat (first | exact sr _ (by omega) | exact s36 | refine row_wI' ?_ (by omega) | refine row_cp' ?_ (by omega))) _) | refine el_wI' ?_ (by omega) | refine el_cp' ?_ (by omega))
  · repeat (first | (refine (cp_at (show j < ix 12 from hj)).trans ?_; exact congrFun (by repeat (first | exact sr _ (by omega) | exact s36 | refine row_wI' ?_ (by omega) | refine row_cp' ?_ (by omega))) _) | refine el_wI' ?_ (by omega) | refine el_cp' ?_ (by omega))
  · rcases hf with rfl | rfl | rfl | rfl | rfl | rfl | rfl
    · repeat (first | (refine wI_s.trans ?_; exact congrFun (by repeat (first | exact sr _ (by omega) | exact s36 | refine row_wI' ?_ (by omega) | refine row_cp' ?_ (by omega))) _) | refine el_wI' ?_ (by omega) | refine el_cp' ?_ (by omega))
    · repeat (first | (refine wI_s.trans ?_; exact congrFun (by repeat (first | exact sr _ (by omega) | exact s36 | refine row_wI' ?_ (by omega) | refine row_cp' ?_ (by omega))) _) | refine el_wI' ?_ (by omega) | refine el_cp' ?_ (by omega))
    · repeat (first | (refine wI_s.trans ?_; exact congrFun (by repeat (first | exact sr _ (by omega) | exact s36 | refine row_wI' ?_ (by omega) | refine row_cp' ?_ (by omega))) _) | refine el_wI' ?_ (by omega) | refine el_cp' ?_ (by omega))
    · repeat (first | (refine wI_s.trans ?_; exact congrFun (by repeat (first | exact sr _ (by omega) | exact s36 | refine row_wI' ?_ (by omega) | refine row_cp' ?_ (by omega))) _) | refine el_wI' ?_ (by omega) | refine el_cp' ?_ (by omega))
    · repeat (first | (refine wI_s.trans ?_; exact congrFun (by repeat (first | exact sr _ (by omega) | exact s36 | refine row_wI' ?_ (by omega) | refine row_cp' ?_ (by omega))) _) | refine el_wI' ?_ (by omega) | refine el_cp' ?_ (by omega))
    · repeat (first | (refine wI_s.trans ?_; exact congrFun (by repeat (first | exact sr _ (by omega) | exact s36 | refine row_wI' ?_ (by omega) | refine row_cp' ?_ (by omega))) _) | refine el_wI' ?_ (by omega) | refine el_cp' ?_ (by omega))
    · repeat (first | (refine wI_s.trans ?_; exact congrFun (by repeat (first | exact sr _ (by omega) | exact s36 | refine row_wI' ?_ (by omega) | refine row_cp' ?_ (by omega))) _) | refine el_wI' ?_ (by omega) | refine el_cp' ?_ (by omega))
  · repeat (first | (refine (cp_at (show j < ix 20 from hj)).trans ?_; exact congrFun (by repeat (first | exact sr _ (by omega) | exact s36 | refine row_wI' ?_ (by omega) | refine row_cp' ?_ (by omega))) _) | refine el_wI' ?_ (by omega) | refine el_cp' ?_ (by omega))
theorem become_2 {M : Mem} {m1 m2 m3 : Nat} (h1 : M.1 69 1 = nI m1) (h2 : M.1 69 3 = nI m2) (h3 : M.1 69 7 = nI m3) (b1 : m1 ≤ 20) (b2 : m2 ≤ 6) (b3 : m3 ≤ 6) (hB : ∀ j, j < m1 → isB (M.1 (j + 71) 4)) : ∃ M', fLake_become_2 M = some M' ∧ (∀ q, (q < 20 ∨ 68 < q) → M'.1 q = M.1 q) ∧ M'.1 56 = M.1 56 ∧ M'.2 = M.2 ∧ (∀ f, f = 1 ∨ f = 3 ∨ f = 7 ∨ f = 10 ∨ f = 4 ∨ f = 12 ∨ f = 13 ∨ f = 14 ∨ f = 15 → M'.1 20 f = M.1 69 f) ∧ (∀ j, j < m1 → ∀ f, f < 5 → M'.1 (j + 22) f = M.1 (j + 71) f) ∧ (∀ j, j < m2 → ∀ f, f < 9 → M'.1 (j + 50) f = M.1 (j + 99) f) ∧ (∀ j, j < m3 → ∀ f, f < 3 → M'.1 (j + 58) f = M.1 (j + 107) f) ∧ (∀ j, j < 10 → M'.1 64 j = M.1 113 j ∧ M'.1 65 j = M.1 114 j) ∧ (∀ j, j < 12 → M'.1 66 j = M.1 115 j) ∧ (∀ f, f = 0 ∨ f = 2 ∨ f = 3 ∨ f = 4 ∨ f = 5 ∨ f = 6 ∨ f = 7 → M'.1 67 f = M.1 116 f) ∧ ∀ j, j < 20 → M'.1 68 j = M.1 117 j := by
  obtain ⟨A2, p1, p2, p3, p4⟩ := jb_L_2 b1 (kx := fun M5 => (mlet (wI M5 20 3 (M5.1 69 3)) (fun M6 => (fLake_becomeCounted_2_L49 (fun M10 => (mlet (wI M10 20 7 (M10.1 69 7)) (fun M11 => (fLake_becomeCounted_2_L88 (fun M15 => (mlet (wI M15 20 10 (M15.1 69 10)) (fun M16 => (gd (cpokB 0 0 10 10 10) (mlet (cpI M16 113 64 0 0 10) (fun M17 => (gd (cpokB 0 0 10 10 10) (mlet (cpI M17 114 65 0 0 10) (fun M18 => (some M18)))))))))) FU 0 M11)))) FU 0 M6)))) m1 0 (by omega) (wI M 20 1 (M.1 69 1)) (by rw [wI_s, h1]) (fun j hj => by rw [wI_row _ _ _ _ (by omega)]; exact hB j hj) FU (by rw [FU_eq]; omega)
  obtain ⟨A4, q1, q2, q3, q4⟩ := lb_L_2 b2 (kx := fun M10 => (mlet (wI M10 20 7 (M10.1 69 7)) (fun M11 => (fLake_becomeCounted_2_L88 (fun M15 => (mlet (wI M15 20 10 (M15.1 69 10)) (fun M16 => (gd (cpokB 0 0 10 10 10) (mlet (cpI M16 113 64 0 0 10) (fun M17 => (gd (cpokB 0 0 10 10 10) (mlet (cpI M17 114 65 0 0 10) (fun M18 => (some M18)))))))))) FU 0 M11)))) m2 0 (by omega) (wI A2 20 3 (A2.1 69 3)) (by rw [wI_s, p2 69 (by omega), wI_row _ _ _ _ (by omega), h2]) FU (by rw [FU_eq]; omega)
  obtain ⟨A6, r1, r2, r3, r4⟩ := ab_L_2 b3 (kx := fun M15 => (mlet (wI M15 20 10 (M15.1 69 10)) (fun M16 => (gd (cpokB 0 0 10 10 10) (mlet (cpI M16 113 64 0 0 10) (fun M17 => (gd (cpokB 0 0 10 10 10) (mlet (cpI M17 114 65 0 0 10) (fun M18 => (some M18)))))))))) m3 0 (by omega) (wI A4 20 7 (A4.1 69 7)) (by rw [wI_s, q2 69 (by omega), wI_row _ _ _ _ (by omega), p2 69 (by omega), wI_row _ _ _ _ (by omega), h3]) FU (by rw [FU_eq]; omega)
  have c1 : fLake_becomeCounted_2 M = some (cpI (cpI (wI A6 20 10 (A6.1 69 10)) 113 64 0 0 10) 114 65 0 0 10) := by
    unfold fLake_becomeCounted_2
    rw [mlet_e]
    refine p1.trans ?_
    rw [mlet_e]
    refine q1.trans ?_
    rw [mlet_e]
    refine r1.trans ?_
    rw [mlet_e, gd_t (by decide), mlet_e, gd_t (by decide), mlet_e]
  -- what the loops leave
  have s2 : ∀ q, (q < 20 ∨ 42 ≤ q) → A2.1 q = M.1 q := fun q hq => (p2 q (by omega)).trans (wI_row _ _ _ _ (by omega))
  have s4 : ∀ q, q ≠ 20 → (q < 50 ∨ 56 ≤ q) → A4.1 q = A2.1 q := fun q hq hq2 => (q2 q (by omega)).trans (wI_row _ _ _ _ hq)
  have s6 : ∀ q, q ≠ 20 → (q < 58 ∨ 64 ≤ q) → A6.1 q = A4.1 q := fun q hq hq2 => (r2 q (by omega)).trans (wI_row _ _ _ _ hq)
  have sr : ∀ q, (q < 20 ∨ 64 ≤ q) → A6.1 q = M.1 q := fun q hq => ((s6 q (by omega) (by omega)).trans (s4 q (by omega) (by omega))).trans (s2 q (by omega))
  have s36 : A6.1 56 = M.1 56 := ((s6 _ (by omega) (by omega)).trans (s4 _ (by omega) (by omega))).trans (s2 _ (by omega))
  have d1 : A6.1 20 1 = M.1 69 1 := by rw [r2 20 (by omega), mem_fst (by omega), q2 20 (by omega), mem_fst (by omega), p2 20 (by omega), wI_s]
  have d3 : A6.1 20 3 = M.1 69 3 := by rw [r2 20 (by omega), mem_fst (by omega), q2 20 (by omega), wI_s, s2 69 (by omega)]
  have d7 : A6.1 20 7 = M.1 69 7 := by rw [r2 20 (by omega), wI_s, s4 69 (by omega) (by omega), s2 69 (by omega)]
  unfold fLake_become_2
  rw [c1]
  simp only [Option.bind_some]
  rw [gd_t (by decide)]
  unfold fVoyage_become_2
  simp only [mlet_e, Option.bind_some]
  rw [gd_t (by decide)]
  refine ⟨_, rfl, fun q hq => (by repeat (first | exact sr _ (by omega) | exact s36 | refine row_wI' ?_ (by omega) | refine row_cp' ?_ (by omega))), (by repeat (first | exact sr _ (by omega) | exact s36 | refine row_wI' ?_ (by omega) | refine row_cp' ?_ (by omega))), (r3.trans (q3.trans p3)), fun f hf => ?_, fun j hj f hf => ?_, fun j hj f hf => ?_, fun j hj f hf => ?_, fun j hj => ⟨?_, ?_⟩, fun j hj => ?_, fun f hf => ?_, fun j hj => ?_⟩
  · rcases hf with rfl | rfl | rfl | rfl | rfl | rfl | rfl | rfl | rfl
    · repeat (first | exact d1 | refine el_wI' ?_ (by omega) | refine el_cp' ?_ (by omega))
    · repeat (first | exact d3 | refine el_wI' ?_ (by omega) | refine el_cp' ?_ (by omega))
    · repeat (first | exact d7 | refine el_wI' ?_ (by omega) | refine el_cp' ?_ (by omega))
    · repeat (first | (refine wI_s.trans ?_; exact congrFun (by repeat (first | exact sr _ (by omega) | exact s36 | refine row_wI' ?_ (by omega) | refine row_cp' ?_ (by omega))) _) | refine el_wI' ?_ (by omega) | refine el_cp' ?_ (by omega))
    · repeat (first | (refine wI_s.trans ?_; exact congrFun (by repeat (first | exact sr _ (by omega) | exact s36 | refine row_wI' ?_ (by omega) | refine row_cp' ?_ (by omega))) _) | refine el_wI' ?_ (by omega) | refine el_cp' ?_ (by omega))
    · repeat (first | (refine wI_s.trans ?_; exact congrFun (by repeat (first | exact sr _ (by omega) | exact s36 | refine row_wI' ?_ (by omega) | refine row_cp' ?_ (by omega))) _) | refine el_wI' ?_ (by omega) | refine el_cp' ?_ (by omega))
    · repeat (first | (refine wI_s.trans ?_; exact congrFun (by repeat (first | exact sr _ (by omega) | exact s36 | refine row_wI' ?_ (by omega) | refine row_cp' ?_ (by omega))) _) | refine el_wI' ?_ (by omega) | refine el_cp' ?_ (by omega))
    · repeat (first | (refine wI_s.trans ?_; exact congrFun (by repeat (first | exact sr _ (by omega) | exact s36 | refine row_wI' ?_ (by omega) | refine row_cp' ?_ (by omega))) _) | refine el_wI' ?_ (by omega) | refine el_cp' ?_ (by omega))
    · repeat (first | (refine wI_s.trans ?_; exact congrFun (by repeat (first | exact sr _ (by omega) | exact s36 | refine row_wI' ?_ (by omega) | refine row_cp' ?_ (by omega))) _) | refine el_wI' ?_ (by omega) | refine el_cp' ?_ (by omega))
  · repeat (first | exact (((congrFun ((s6 _ (by omega) (by omega)).trans (s4 _ (by omega) (by omega))) f).trans (p4 j (by omega) hj f hf)).trans (congrFun (wI_row _ _ _ _ (by omega)) f)) | refine el_wI' ?_ (by omega) | refine el_cp' ?_ (by omega))
  · repeat (first | exact (((congrFun (s6 _ (by omega) (by omega)) f).trans (q4 j (by omega) hj f hf)).trans (congrFun ((wI_row _ _ _ _ (by omega)).trans (s2 _ (by omega))) f)) | refine el_wI' ?_ (by omega) | refine el_cp' ?_ (by omega))
  · repeat (first | exact ((r4 j (by omega) hj f hf).trans (congrFun ((wI_row _ _ _ _ (by omega)).trans ((s4 _ (by omega) (by omega)).trans (s2 _ (by omega)))) f)) | refine el_wI' ?_ (by omega) | refine el_cp' ?_ (by omega))
  · repeat (first | (refine (cp_at (show j < ix 10 from hj)).trans ?_; exact congrFun (by repeat (first | exact sr _ (by omega) | exact s36 | refine row_wI' ?_ (by omega) | refine row_cp' ?_ (by omega))) _) | refine el_wI' ?_ (by omega) | refine el_cp' ?_ (by omega))
  · repeat (first | (refine (cp_at (show j < ix 10 from hj)).trans ?_; exact congrFun (by repeat (first | exact sr _ (by omega) | exact s36 | refine row_wI' ?_ (by omega) | refine row_cp' ?_ (by omega))) _) | refine el_wI' ?_ (by omega) | refine el_cp' ?_ (by omega))
  · repeat (first | (refine (cp_at (show j < ix 12 from hj)).trans ?_; exact congrFun (by repeat (first | exact sr _ (by omega) | exact s36 | refine row_wI' ?_ (by omega) | refine row_cp' ?_ (by omega))) _) | refine el_wI' ?_ (by omega) | refine el_cp' ?_ (by omega))
  · rcases hf with rfl | rfl | rfl | rfl | rfl | rfl | rfl
    · repeat (first | (refine wI_s.trans ?_; exact congrFun (by repeat (first | exact sr _ (by omega) | exact s36 | refine row_wI' ?_ (by omega) | refine row_cp' ?_ (by omega))) _) | refine el_wI' ?_ (by omega) | refine el_cp' ?_ (by omega))
    · repeat (first | (refine wI_s.trans ?_; exact congrFun (by repeat (first | exact sr _ (by omega) | exact s36 | refine row_wI' ?_ (by omega) | refine row_cp' ?_ (by omega))) _) | refine el_wI' ?_ (by omega) | refine el_cp' ?_ (by omega))
    · repeat (first | (refine wI_s.trans ?_; exact congrFun (by repeat (first | exact sr _ (by omega) | exact s36 | refine row_wI' ?_ (by omega) | refine row_cp' ?_ (by omega))) _) | refine el_wI' ?_ (by omega) | refine el_cp' ?_ (by omega))
    · repeat (first | (refine wI_s.trans ?_; exact congrFun (by repeat (first | exact sr _ (by omega) | exact s36 | refine row_wI' ?_ (by omega) | refine row_cp' ?_ (by omega))) _) | refine el_wI' ?_ (by omega) | refine el_cp' ?_ (by omega))
    · repeat (first | (refine wI_s.trans ?_; exact congrFun (by repeat (first | exact sr _ (by omega) | exact s36 | refine row_wI' ?_ (by omega) | refine row_cp' ?_ (by omega))) _) | refine el_wI' ?_ (by omega) | refine el_cp' ?_ (by omega))
    · repeat (first | (refine wI_s.trans ?_; exact congrFun (by repeat (first | exact sr _ (by omega) | exact s36 | refine row_wI' ?_ (by omega) | refine row_cp' ?_ (by omega))) _) | refine el_wI' ?_ (by omega) | refine el_cp' ?_ (by omega))
    · repeat (first | (refine wI_s.trans ?_; exact congrFun (by repeat (first | exact sr _ (by omega) | exact s36 | refine row_wI' ?_ (by omega) | refine row_cp' ?_ (by omega))) _) | refine el_wI' ?_ (by omega) | refine el_cp' ?_ (by omega))
  · repeat (first | (refine (cp_at (show j < ix 20 from hj)).trans ?_; exact congrFun (by repeat (first | exact sr _ (by omega) | exact s36 | refine row_wI' ?_ (by omega) | refine row_cp' ?_ (by omega))) _) | refine el_wI' ?_ (by omega) | refine el_cp' ?_ (by omega))
