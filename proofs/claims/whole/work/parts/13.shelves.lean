theorem nsh {a : Int32} (h1 : 0 ≤ a.toInt) (h2 : a.toInt < 8) : ¬ (a.toInt < 0 ∨ 8 ≤ a.toInt) := by omega
theorem b_in {a : Int32} {n : Nat} (h1 : 0 ≤ a.toInt) (h2 : a.toInt < n) : inb a n := t_inb.mpr ⟨h1, h2⟩
theorem nI_ne_m1 {n : Nat} (h : n < 2147483648) : nI n ≠ -1 := by
  intro q
  have := t_eq.mp q
  rw [t_nI h] at this
  have h0 : (-1 : Int32).toInt = -1 := rfl
  omega
/-- what a shelf holds, as both tell it -/
theorem rowT {C N : Mem} (h : RS C N) (hj : (C.1 20 1).toInt ≤ 20) {a1 : Int32} (h1 : 0 ≤ a1.toInt) (h2 : a1.toInt < 8) :
    (fc_rowTrouble C a1 a1 = some (-4) ∧ fm_noRow N a1 = some (-4)) ∨
    (fc_rowTrouble C a1 a1 = some 0 ∧ fm_noRow N a1 = some 0 ∧ ∃ t : Nat, t < 5 ∧ N.1 139 (ix a1) = nI (100 + t) ∧ C.1 (ix a1 + 2) 0 = nI t ∧ C.1 (ix a1 + 2) 2 = -1 ∧ C.1 (ix a1 + 2) 1 = N.1 140 (ix a1) ∧ bd (N.1 140 (ix a1)) 0 40 ∧ ∀ i, i < 40 → C.2 (ix a1 + 10) i = N.2 141 (40 * ix a1 + i)) ∨
    (fc_rowTrouble C a1 a1 = some (-3) ∧ fm_noRow N a1 = some (-3)) := by
  have hix := t_ix h1
  have hin : inb a1 8 := b_in h1 h2
  have hn := nsh h1 h2
  rcases h (ix a1) (by omega) with ⟨e1, e2, e3, e4⟩ | ⟨t, ht, e1, e2, e3, e4, e5, e6⟩ | ⟨e1, e2, e3, e4, e5⟩
  · refine Or.inl ⟨?_, ?_⟩
    · simp [fc_rowTrouble, shelf_0, gd_t hin, hn, e2, e4, fShelf_isEmptyT]
    · simp [fm_noRow, fm_holdsJetty, mshelf_0, gd_t hin, hn, e1, t_lt, t_le, Int32.reduceToInt]
  · refine Or.inr (Or.inl ⟨?_, ?_, t, ht, e1, e2, e3, e4, e5, e6⟩)
    · simp [fc_rowTrouble, shelf_0, gd_t hin, hn, e2, e3, fShelf_isEmptyT, nI_ne_m1 (show t < 2147483648 by omega)]
    · have q := t_nI (show 100 + t < 2147483648 by omega)
      have q1 : ¬ (nI (100 + t)).toInt < 0 := by omega
      have q2 : 100 ≤ (nI (100 + t)).toInt := by omega
      have q3 : 0 ≤ (nI (100 + t)).toInt := by omega
      simp [fm_noRow, fm_holdsJetty, mshelf_0, gd_t hin, hn, e1, t_lt, t_le, Int32.reduceToInt, q1, q2, q3]
  · refine Or.inr (Or.inr ⟨?_, ?_⟩)
    · have q : ¬ N.1 139 (ix a1) = -1 := fun z => by
        have := t_eq.mp z
        have h0 : (-1 : Int32).toInt = -1 := rfl
        omega
      simp [fc_rowTrouble, shelf_0, gd_t hin, hn, e1, e3, q]
    · have q1 : ¬ (N.1 139 (ix a1)).toInt < 0 := by omega
      have q2 : ¬ 100 ≤ (N.1 139 (ix a1)).toInt := by omega
      simp [fm_noRow, fm_holdsJetty, mshelf_0, gd_t hin, hn, t_lt, t_le, Int32.reduceToInt, q1, q2]
theorem rowTb {C N : Mem} {a1 a2 : Int32} (h : (a1.toInt < 0 ∨ 8 ≤ a1.toInt) ∨ (a2.toInt < 0 ∨ 8 ≤ a2.toInt)) : fc_rowTrouble C a1 a2 = some (-2) := by
  unfold fc_rowTrouble
  simp only [shelf_0]
  split
  · rfl
  · rw [if_pos]
    omega
theorem noRowb {N : Mem} {a1 : Int32} (h : a1.toInt < 0 ∨ 8 ≤ a1.toInt) : fm_noRow N a1 = some (-2) := by
  unfold fm_noRow
  simp only [mshelf_0, h, if_true]
theorem nsc {C N : Mem} {c : Nat} (h : Rel c C N) : (C.1 20 1).toInt ≤ 20 ∧ 0 ≤ (C.1 20 1).toInt := by
  have := h.1.1.1
  rw [this.1]
  exact ⟨this.2.2, this.2.1⟩
-- row
theorem takeRow_L {s : Nat} : ∀ (n j : Nat) (M : Mem), j + n = 40 → ∀ fuel, n < fuel → fShelf_takeRow_L17 s fuel (nI j) M = some (rowL M (s + 10) (fun i => if j ≤ i ∧ i < 40 then 0 else M.2 (s + 10) i)) := by
  intro n
  induction n with
  | zero =>
    intro j M hj fuel hf
    obtain ⟨f, rfl⟩ : ∃ f, fuel = f + 1 := ⟨fuel - 1, by omega⟩
    have hj : j = 40 := by omega
    subst hj
    rw [fShelf_takeRow_L17, if_pos (by decide)]
    congr 1
    refine Prod.ext rfl ?_
    funext a
    simp only [rowL]
    split
    · subst_vars; funext i; rw [if_neg (by omega)]
    · rfl
  | succ n ih =>
    intro j M hj fuel hf
    obtain ⟨f, rfl⟩ : ∃ f, fuel = f + 1 := ⟨fuel - 1, by omega⟩
    have hj1 : (nI j).toInt = j := t_nI (by omega)
    rw [fShelf_takeRow_L17, if_neg (by rw [t_le, hj1]; simp [Int32.reduceToInt]; omega), gd_t (b_in (by omega) (by omega)), mlet_e, nI_1, ih (j + 1) _ (by omega) f (by omega), ix_nI (by omega)]
    congr 1
    refine Prod.ext rfl ?_
    funext a
    simp only [rowL, wL]
    split
    · subst_vars
      funext i
      simp only [if_true, vp_updL]
      by_cases hi : i = j
      · subst hi; simp; omega
      · by_cases h2 : j + 1 ≤ i ∧ i < 40
        · rw [if_pos h2, if_pos (by omega)]
        · rw [if_neg h2, if_neg hi, if_neg (by omega)]
    · rfl
theorem t_lin {a b : Int32} {x y : Nat} (h1 : 0 ≤ a.toInt) (h2 : a.toInt < 8) (h3 : 0 ≤ b.toInt) (h4 : b.toInt ≤ 40) : (((40 : Int32) * a) + b).toInt = 40 * a.toInt + b.toInt := by
  have e : ((40 : Int32) * a).toInt = 40 * a.toInt := by
    rw [t_mul] <;> simp only [show (40 : Int32).toInt = 40 from rfl]
    · omega
    · omega
  rw [t_add] <;> rw [e]
  · omega
  · omega
theorem ix_lin {a b : Int32} (h1 : 0 ≤ a.toInt) (h2 : a.toInt < 8) (h3 : 0 ≤ b.toInt) (h4 : b.toInt ≤ 40) : ix (((40 : Int32) * a) + b) = 40 * ix a + ix b := by
  have e := t_lin (x := 0) (y := 0) h1 h2 h3 h4
  have e1 := t_ix h1
  have e2 := t_ix h3
  have e3 := t_ix (a := ((40 : Int32) * a) + b) (by omega)
  omega
theorem mrow_L {a1 : Int32} (h1 : 0 ≤ a1.toInt) (h2 : a1.toInt < 8) : ∀ (n j : Nat) (M : Mem), j + n = 40 → ∀ fuel, n < fuel → fm_row_L54 a1 fuel (nI j) M = some (1, rowL M 141 (fun i => if 40 * ix a1 + j ≤ i ∧ i < 40 * ix a1 + 40 then 0 else M.2 141 i)) := by
  intro n
  induction n with
  | zero =>
    intro j M hj fuel hf
    obtain ⟨f, rfl⟩ : ∃ f, fuel = f + 1 := ⟨fuel - 1, by omega⟩
    have hj : j = 40 := by omega
    subst hj
    rw [fm_row_L54, if_pos (by decide)]
    congr 2
    refine Prod.ext rfl ?_
    funext a
    simp only [rowL]
    split
    · subst_vars; funext i; rw [if_neg (by omega)]
    · rfl
  | succ n ih =>
    intro j M hj fuel hf
    obtain ⟨f, rfl⟩ : ∃ f, fuel = f + 1 := ⟨fuel - 1, by omega⟩
    have hj1 : (nI j).toInt = j := t_nI (by omega)
    have e := t_lin (x := 0) (y := 0) (b := nI j) h1 h2 (by omega) (by omega)
    have e2 := ix_lin (b := nI j) h1 h2 (by omega) (by omega)
    rw [ix_nI (by omega)] at e2
    rw [fm_row_L54, if_neg (by rw [t_le, hj1]; simp [Int32.reduceToInt]; omega), gd_t (b_in (by omega) (by omega)), mlet_e, nI_1, ih (j + 1) _ (by omega) f (by omega), e2]
    congr 2
    refine Prod.ext rfl ?_
    funext a
    simp only [rowL, wL]
    split
    · subst_vars
      funext i
      simp only [if_true, vp_updL]
      by_cases hi : i = 40 * ix a1 + j
      · subst hi; simp; omega
      · by_cases h2 : 40 * ix a1 + (j + 1) ≤ i ∧ i < 40 * ix a1 + 40
        · rw [if_pos h2, if_pos (by omega)]
        · rw [if_neg h2, if_neg hi, if_neg (by omega)]
    · rfl
set_option maxHeartbeats 1000000 in
theorem op_row {c : Nat} {C N : Mem} (h : Rel c C N) (a1 a2 a3 : Int32) : Sim c (fc_row C a1 a2 a3) (fm_row N a1 a2 a3) := by
  by_cases hb : (a1.toInt < 0 ∨ 8 ≤ a1.toInt) ∨ (a2.toInt < 0 ∨ 5 ≤ a2.toInt) ∨ (a3.toInt < 0 ∨ 40 < a3.toInt)
  · refine sim_2 h ?_ ?_
    · unfold fc_row
      simp only [bind_eta, shelf_0, below_0, within_0, Int32.reduceToInt]
      split
      · rfl
      · split
        · rfl
        · rw [if_pos (by omega)]
    · unfold fm_row
      simp only [bind_eta, mshelf_0, t_lt, t_le, Int32.reduceToInt]
      split
      · rfl
      · split
        · rfl
        · split
          · rfl
          · split
            · rfl
            · rw [if_neg (by omega)]
  · have h1 : 0 ≤ a1.toInt := by omega
    have h2 : a1.toInt < 8 := by omega
    have h3 : 0 ≤ a2.toInt := by omega
    have hix := t_ix h1
    have hi2 := t_ix h3
    have hin : inb a1 8 := b_in h1 h2
    apply sim_i (r := 1)
    · unfold fc_row
      rw [if_neg (by rw [shelf_0]; omega), if_neg (by rw [below_0]; simp only [Int32.reduceToInt]; omega), if_neg (by rw [within_0]; simp only [Int32.reduceToInt]; omega), gd_t hin]
      unfold fShelf_takeRow
      simp only [mlet_e]
      rw [show (0 : Int32) = nI 0 from rfl, takeRow_L 40 0 _ (by omega) FU (by rw [FU_eq]; omega)]
      rfl
    · unfold fm_row
      rw [if_neg (by rw [mshelf_0]; omega), if_neg (by rw [t_lt]; simp only [Int32.reduceToInt]; omega), if_neg (by rw [t_lt]; simp only [Int32.reduceToInt]; omega), if_neg (by rw [t_lt]; simp only [Int32.reduceToInt]; omega), if_pos (by rw [t_le]; simp only [Int32.reduceToInt]; omega), gd_t hin, mlet_e, gd_t hin, mlet_e]
      rw [show (0 : Int32) = nI 0 from rfl, mrow_L h1 h2 40 0 _ (by omega) FU (by rw [FU_eq]; omega)]
    · refine Rel_RS h ?_ ?_ ?_ ?_ ?_
      · exact same_t (same_t (same_t (same_wI (by omega)) (same_wI (by omega))) (same_wI (by omega))) (same_rL (by omega))
      · exact same_t (same_t (same_t (same_wI (by omega)) (same_wI (by omega))) (same_wI (by omega))) (same_rL (by omega))
      · exact same_t (same_t (same_wI (by omega)) (same_wI (by omega))) (same_rL (by omega))
      · exact same_t (same_t (same_wI (by omega)) (same_wI (by omega))) (same_rL (by omega))
      · refine RS_upd h.2.1 (ix a1) ?_ ?_ ?_
        · intro q hq hne
          refine ⟨?_, ?_, ?_, ?_, ?_⟩
          · rw [rowL_1, wI_row _ _ _ _ (by omega), wI_row _ _ _ _ (by omega), wI_row _ _ _ _ (by omega)]
          · rw [rowL_2, if_neg (by omega)]; rfl
          · simp [rowL_1, wI_1, hne]
          · simp [rowL_1, wI_1, hne]
          · intro i hi
            rw [rowL_2, if_pos rfl, if_neg (by omega)]; rfl
        · simp only [rowL_1, wI_1]
          rw [if_neg (by omega), if_neg (by omega), if_neg (by omega)]
        · refine Or.inr (Or.inl ⟨ix a2, by omega, ?_, ?_, ?_, ?_, ?_, ?_⟩)
          · simp only [rowL_1, wI_1]
            simp
            rw [t_eq, t_nI (by omega), t_add] <;> simp only [Int32.reduceToInt] <;> omega
          · simp [rowL_1, wI_1]
            exact of_ix h3
          · simp [rowL_1, wI_1]
          · simp [rowL_1, wI_1]
          · simp [rowL_1, wI_1, bd]; omega
          · intro i hi
            rw [rowL_2, if_pos rfl, if_pos (by omega), rowL_2, if_pos rfl, if_pos (by omega)]
