-- the reference's moves
theorem rowI_wI {M : Mem} {q : Nat} {f : Nat → Int32} {i : Nat} {v : Int32} : wI (rowI M q f) q i v = rowI M q (fun j => if j = i then v else f j) := by
  unfold wI rowI
  refine Prod.ext ?_ rfl
  funext a
  simp only []
  by_cases e : a = q
  · rw [if_pos e, if_pos e]; simp only [if_true]; rfl
  · rw [if_neg e, if_neg e, if_neg e]
theorem rowI_same (M : Mem) (k : Nat) : rowI M k (M.1 k) = M := by
  unfold rowI
  refine Prod.ext ?_ rfl
  funext a
  simp only []
  split
  · subst_vars; rfl
  · rfl
theorem cpy_s (f g : Nat → Int32) (S D k : Nat) : (fun j => if j = D + k then f (S + k) else va_cpy f g S D k j) = va_cpy f g S D (k + 1) := by
  funext j
  unfold va_cpy
  by_cases e : j = D + k
  · rw [if_pos e, if_pos (by omega)]
    exact congrArg f (by omega)
  · rw [if_neg e]
    by_cases z : D ≤ j ∧ j < D + k
    · rw [if_pos z, if_pos (by omega)]
    · rw [if_neg z, if_neg (by omega)]
theorem cpy_0 (f g : Nat → Int32) (S D : Nat) : va_cpy f g S D 0 = g := by
  funext j
  unfold va_cpy
  rw [if_neg (by omega)]
theorem t_nn {a b : Nat} (h : a + b < 2147483648) : (nI a + nI b).toInt = ((a + b : Nat) : Int) ∧ ix (nI a + nI b) = a + b := by
  have e : (nI a + nI b).toInt = ((a + b : Nat) : Int) := by
    rw [t_add] <;> rw [t_nI (by omega), t_nI (by omega)] <;> omega
  have i := t_ix (a := nI a + nI b) (by omega)
  exact ⟨e, by omega⟩
theorem mo_L {M : Mem} {kx : Mem → Option (Int32 × Mem)} : ∀ (n k : Nat), k + n = 9 → ∀ F1, n < F1 → fm_move_L3 (nI 0) 1 kx F1 (nI k) (rowI M 159 (va_cpy (M.1 156) (M.1 159) 0 0 k)) = kx (rowI M 159 (va_cpy (M.1 156) (M.1 159) 0 0 9)) := by
  intro n
  induction n with
  | zero =>
    intro k hk F1 h1
    obtain ⟨F1, rfl⟩ : ∃ m, F1 = m + 1 := ⟨F1 - 1, by omega⟩
    have hk : k = 9 := by omega
    subst hk
    rw [fm_move_L3, if_pos (by decide)]
  | succ n ih =>
    intro k hk F1 h1
    obtain ⟨F1, rfl⟩ : ∃ m, F1 = m + 1 := ⟨F1 - 1, by omega⟩
    have tk := t_nI (show k < 2147483648 by omega)
    have xk := ix_nI (show k < 2147483648 by omega)
    obtain ⟨q1, q2⟩ := t_nn (a := 0) (b := k) (by omega)
    have hin : inb (nI k) 9 := b_in (by omega) (by omega)
    have hin2 : inb (nI 0 + nI k) 300 := b_in (by omega) (by omega)
    rw [fm_move_L3, if_neg (show ¬ (9 : Int32) ≤ nI k by rw [t_le, tk]; simp only [Int32.reduceToInt]; omega), jlet_e, if_neg (show ¬ (1 : Int32) = 0 by decide), gd_t hin, gd_t hin2, mlet_e, q2, xk, nI_1, rowI_wI, rowI_1, if_neg (show ¬ (156 : Nat) = 159 by omega)]
    have e := cpy_s (M.1 156) (M.1 159) 0 0 k
    rw [Nat.zero_add] at e
    simp only [Nat.zero_add] at e ⊢
    skip
    rw [e]
    exact ih (k + 1) (by omega) F1 (by omega)
theorem mo (M : Mem) : fm_move M (nI 0) 1 = some (nI 9, (rowI M 159 (va_cpy (M.1 156) (M.1 159) 0 0 9))) := by
  have e := mo_L (M := M) (kx := fun M7 => some (nI 0 + 9, M7)) 9 0 (by omega) FU (by rw [FU_eq]; omega)
  rw [cpy_0, rowI_same] at e
  exact e
theorem mi_L {M : Mem} {kx : Mem → Option (Int32 × Mem)} : ∀ (n k : Nat), k + n = 9 → ∀ F1, n < F1 → fm_move_L3 (nI 0) 0 kx F1 (nI k) (rowI M 156 (va_cpy (M.1 159) (M.1 156) 0 0 k)) = kx (rowI M 156 (va_cpy (M.1 159) (M.1 156) 0 0 9)) := by
  intro n
  induction n with
  | zero =>
    intro k hk F1 h1
    obtain ⟨F1, rfl⟩ : ∃ m, F1 = m + 1 := ⟨F1 - 1, by omega⟩
    have hk : k = 9 := by omega
    subst hk
    rw [fm_move_L3, if_pos (by decide)]
  | succ n ih =>
    intro k hk F1 h1
    obtain ⟨F1, rfl⟩ : ∃ m, F1 = m + 1 := ⟨F1 - 1, by omega⟩
    have tk := t_nI (show k < 2147483648 by omega)
    have xk := ix_nI (show k < 2147483648 by omega)
    obtain ⟨q1, q2⟩ := t_nn (a := 0) (b := k) (by omega)
    have hin : inb (nI k) 9 := b_in (by omega) (by omega)
    have hin2 : inb (nI 0 + nI k) 300 := b_in (by omega) (by omega)
    rw [fm_move_L3, if_neg (show ¬ (9 : Int32) ≤ nI k by rw [t_le, tk]; simp only [Int32.reduceToInt]; omega), jlet_e, if_pos rfl, gd_t hin2, gd_t hin, mlet_e, q2, xk, nI_1, rowI_wI, rowI_1, if_neg (show ¬ (159 : Nat) = 156 by omega)]
    have e := cpy_s (M.1 159) (M.1 156) 0 0 k
    rw [Nat.zero_add] at e
    simp only [Nat.zero_add] at e ⊢
    skip
    rw [e]
    exact ih (k + 1) (by omega) F1 (by omega)
theorem mi (M : Mem) : fm_move M (nI 0) 0 = some (nI 9, (rowI M 156 (va_cpy (M.1 159) (M.1 156) 0 0 9))) := by
  have e := mi_L (M := M) (kx := fun M7 => some (nI 0 + 9, M7)) 9 0 (by omega) FU (by rw [FU_eq]; omega)
  rw [cpy_0, rowI_same] at e
  exact e
theorem mo_2_L {M : Mem} {kx : Mem → Option (Int32 × Mem)} : ∀ (n k : Nat), k + n = 28 → ∀ F1, n < F1 → fm_move_2_L3 (nI 9) 1 kx F1 (nI k) (rowI M 159 (va_cpy (M.1 157) (M.1 159) 0 9 k)) = kx (rowI M 159 (va_cpy (M.1 157) (M.1 159) 0 9 28)) := by
  intro n
  induction n with
  | zero =>
    intro k hk F1 h1
    obtain ⟨F1, rfl⟩ : ∃ m, F1 = m + 1 := ⟨F1 - 1, by omega⟩
    have hk : k = 28 := by omega
    subst hk
    rw [fm_move_2_L3, if_pos (by decide)]
  | succ n ih =>
    intro k hk F1 h1
    obtain ⟨F1, rfl⟩ : ∃ m, F1 = m + 1 := ⟨F1 - 1, by omega⟩
    have tk := t_nI (show k < 2147483648 by omega)
    have xk := ix_nI (show k < 2147483648 by omega)
    obtain ⟨q1, q2⟩ := t_nn (a := 9) (b := k) (by omega)
    have hin : inb (nI k) 28 := b_in (by omega) (by omega)
    have hin2 : inb (nI 9 + nI k) 300 := b_in (by omega) (by omega)
    rw [fm_move_2_L3, if_neg (show ¬ (28 : Int32) ≤ nI k by rw [t_le, tk]; simp only [Int32.reduceToInt]; omega), jlet_e, if_neg (show ¬ (1 : Int32) = 0 by decide), gd_t hin, gd_t hin2, mlet_e, q2, xk, nI_1, rowI_wI, rowI_1, if_neg (show ¬ (157 : Nat) = 159 by omega)]
    have e := cpy_s (M.1 157) (M.1 159) 0 9 k
    rw [Nat.zero_add] at e
    skip
    skip
    rw [e]
    exact ih (k + 1) (by omega) F1 (by omega)
theorem mo_2 (M : Mem) : fm_move_2 M (nI 9) 1 = some (nI 37, (rowI M 159 (va_cpy (M.1 157) (M.1 159) 0 9 28))) := by
  have e := mo_2_L (M := M) (kx := fun M7 => some (nI 9 + 28, M7)) 28 0 (by omega) FU (by rw [FU_eq]; omega)
  rw [cpy_0, rowI_same] at e
  exact e
theorem mi_2_L {M : Mem} {kx : Mem → Option (Int32 × Mem)} : ∀ (n k : Nat), k + n = 28 → ∀ F1, n < F1 → fm_move_2_L3 (nI 9) 0 kx F1 (nI k) (rowI M 157 (va_cpy (M.1 159) (M.1 157) 9 0 k)) = kx (rowI M 157 (va_cpy (M.1 159) (M.1 157) 9 0 28)) := by
  intro n
  induction n with
  | zero =>
    intro k hk F1 h1
    obtain ⟨F1, rfl⟩ : ∃ m, F1 = m + 1 := ⟨F1 - 1, by omega⟩
    have hk : k = 28 := by omega
    subst hk
    rw [fm_move_2_L3, if_pos (by decide)]
  | succ n ih =>
    intro k hk F1 h1
    obtain ⟨F1, rfl⟩ : ∃ m, F1 = m + 1 := ⟨F1 - 1, by omega⟩
    have tk := t_nI (show k < 2147483648 by omega)
    have xk := ix_nI (show k < 2147483648 by omega)
    obtain ⟨q1, q2⟩ := t_nn (a := 9) (b := k) (by omega)
    have hin : inb (nI k) 28 := b_in (by omega) (by omega)
    have hin2 : inb (nI 9 + nI k) 300 := b_in (by omega) (by omega)
    rw [fm_move_2_L3, if_neg (show ¬ (28 : Int32) ≤ nI k by rw [t_le, tk]; simp only [Int32.reduceToInt]; omega), jlet_e, if_pos rfl, gd_t hin2, gd_t hin, mlet_e, q2, xk, nI_1, rowI_wI, rowI_1, if_neg (show ¬ (159 : Nat) = 157 by omega)]
    have e := cpy_s (M.1 159) (M.1 157) 9 0 k
    skip
    rw [Nat.zero_add] at e
    skip
    rw [e]
    exact ih (k + 1) (by omega) F1 (by omega)
theorem mi_2 (M : Mem) : fm_move_2 M (nI 9) 0 = some (nI 37, (rowI M 157 (va_cpy (M.1 159) (M.1 157) 9 0 28))) := by
  have e := mi_2_L (M := M) (kx := fun M7 => some (nI 9 + 28, M7)) 28 0 (by omega) FU (by rw [FU_eq]; omega)
  rw [cpy_0, rowI_same] at e
  exact e
theorem mo_3_L {M : Mem} {kx : Mem → Option (Int32 × Mem)} : ∀ (n k : Nat), k + n = 12 → ∀ F1, n < F1 → fm_move_3_L3 (nI 37) 1 kx F1 (nI k) (rowI M 159 (va_cpy (M.1 155) (M.1 159) 0 37 k)) = kx (rowI M 159 (va_cpy (M.1 155) (M.1 159) 0 37 12)) := by
  intro n
  induction n with
  | zero =>
    intro k hk F1 h1
    obtain ⟨F1, rfl⟩ : ∃ m, F1 = m + 1 := ⟨F1 - 1, by omega⟩
    have hk : k = 12 := by omega
    subst hk
    rw [fm_move_3_L3, if_pos (by decide)]
  | succ n ih =>
    intro k hk F1 h1
    obtain ⟨F1, rfl⟩ : ∃ m, F1 = m + 1 := ⟨F1 - 1, by omega⟩
    have tk := t_nI (show k < 2147483648 by omega)
    have xk := ix_nI (show k < 2147483648 by omega)
    obtain ⟨q1, q2⟩ := t_nn (a := 37) (b := k) (by omega)
    have hin : inb (nI k) 12 := b_in (by omega) (by omega)
    have hin2 : inb (nI 37 + nI k) 300 := b_in (by omega) (by omega)
    rw [fm_move_3_L3, if_neg (show ¬ (12 : Int32) ≤ nI k by rw [t_le, tk]; simp only [Int32.reduceToInt]; omega), jlet_e, if_neg (show ¬ (1 : Int32) = 0 by decide), gd_t hin, gd_t hin2, mlet_e, q2, xk, nI_1, rowI_wI, rowI_1, if_neg (show ¬ (155 : Nat) = 159 by omega)]
    have e := cpy_s (M.1 155) (M.1 159) 0 37 k
    rw [Nat.zero_add] at e
    skip
    skip
    rw [e]
    exact ih (k + 1) (by omega) F1 (by omega)
theorem mo_3 (M : Mem) : fm_move_3 M (nI 37) 1 = some (nI 49, (rowI M 159 (va_cpy (M.1 155) (M.1 159) 0 37 12))) := by
  have e := mo_3_L (M := M) (kx := fun M7 => some (nI 37 + 12, M7)) 12 0 (by omega) FU (by rw [FU_eq]; omega)
  rw [cpy_0, rowI_same] at e
  exact e
theorem mi_3_L {M : Mem} {kx : Mem → Option (Int32 × Mem)} : ∀ (n k : Nat), k + n = 12 → ∀ F1, n < F1 → fm_move_3_L3 (nI 37) 0 kx F1 (nI k) (rowI M 155 (va_cpy (M.1 159) (M.1 155) 37 0 k)) = kx (rowI M 155 (va_cpy (M.1 159) (M.1 155) 37 0 12)) := by
  intro n
  induction n with
  | zero =>
    intro k hk F1 h1
    obtain ⟨F1, rfl⟩ : ∃ m, F1 = m + 1 := ⟨F1 - 1, by omega⟩
    have hk : k = 12 := by omega
    subst hk
    rw [fm_move_3_L3, if_pos (by decide)]
  | succ n ih =>
    intro k hk F1 h1
    obtain ⟨F1, rfl⟩ : ∃ m, F1 = m + 1 := ⟨F1 - 1, by omega⟩
    have tk := t_nI (show k < 2147483648 by omega)
    have xk := ix_nI (show k < 2147483648 by omega)
    obtain ⟨q1, q2⟩ := t_nn (a := 37) (b := k) (by omega)
    have hin : inb (nI k) 12 := b_in (by omega) (by omega)
    have hin2 : inb (nI 37 + nI k) 300 := b_in (by omega) (by omega)
    rw [fm_move_3_L3, if_neg (show ¬ (12 : Int32) ≤ nI k by rw [t_le, tk]; simp only [Int32.reduceToInt]; omega), jlet_e, if_pos rfl, gd_t hin2, gd_t hin, mlet_e, q2, xk, nI_1, rowI_wI, rowI_1, if_neg (show ¬ (159 : Nat) = 155 by omega)]
    have e := cpy_s (M.1 159) (M.1 155) 37 0 k
    skip
    rw [Nat.zero_add] at e
    skip
    rw [e]
    exact ih (k + 1) (by omega) F1 (by omega)
theorem mi_3 (M : Mem) : fm_move_3 M (nI 37) 0 = some (nI 49, (rowI M 155 (va_cpy (M.1 159) (M.1 155) 37 0 12))) := by
  have e := mi_3_L (M := M) (kx := fun M7 => some (nI 37 + 12, M7)) 12 0 (by omega) FU (by rw [FU_eq]; omega)
  rw [cpy_0, rowI_same] at e
  exact e
theorem mo_4_L {M : Mem} {kx : Mem → Option (Int32 × Mem)} : ∀ (n k : Nat), k + n = 20 → ∀ F1, n < F1 → fm_move_4_L3 (nI 49) 1 kx F1 (nI k) (rowI M 159 (va_cpy (M.1 142) (M.1 159) 0 49 k)) = kx (rowI M 159 (va_cpy (M.1 142) (M.1 159) 0 49 20)) := by
  intro n
  induction n with
  | zero =>
    intro k hk F1 h1
    obtain ⟨F1, rfl⟩ : ∃ m, F1 = m + 1 := ⟨F1 - 1, by omega⟩
    have hk : k = 20 := by omega
    subst hk
    rw [fm_move_4_L3, if_pos (by decide)]
  | succ n ih =>
    intro k hk F1 h1
    obtain ⟨F1, rfl⟩ : ∃ m, F1 = m + 1 := ⟨F1 - 1, by omega⟩
    have tk := t_nI (show k < 2147483648 by omega)
    have xk := ix_nI (show k < 2147483648 by omega)
    obtain ⟨q1, q2⟩ := t_nn (a := 49) (b := k) (by omega)
    have hin : inb (nI k) 20 := b_in (by omega) (by omega)
    have hin2 : inb (nI 49 + nI k) 300 := b_in (by omega) (by omega)
    rw [fm_move_4_L3, if_neg (show ¬ (20 : Int32) ≤ nI k by rw [t_le, tk]; simp only [Int32.reduceToInt]; omega), jlet_e, if_neg (show ¬ (1 : Int32) = 0 by decide), gd_t hin, gd_t hin2, mlet_e, q2, xk, nI_1, rowI_wI, rowI_1, if_neg (show ¬ (142 : Nat) = 159 by omega)]
    have e := cpy_s (M.1 142) (M.1 159) 0 49 k
    rw [Nat.zero_add] at e
    skip
    skip
    rw [e]
    exact ih (k + 1) (by omega) F1 (by omega)
theorem mo_4 (M : Mem) : fm_move_4 M (nI 49) 1 = some (nI 69, (rowI M 159 (va_cpy (M.1 142) (M.1 159) 0 49 20))) := by
  have e := mo_4_L (M := M) (kx := fun M7 => some (nI 49 + 20, M7)) 20 0 (by omega) FU (by rw [FU_eq]; omega)
  rw [cpy_0, rowI_same] at e
  exact e
theorem mi_4_L {M : Mem} {kx : Mem → Option (Int32 × Mem)} : ∀ (n k : Nat), k + n = 20 → ∀ F1, n < F1 → fm_move_4_L3 (nI 49) 0 kx F1 (nI k) (rowI M 142 (va_cpy (M.1 159) (M.1 142) 49 0 k)) = kx (rowI M 142 (va_cpy (M.1 159) (M.1 142) 49 0 20)) := by
  intro n
  induction n with
  | zero =>
    intro k hk F1 h1
    obtain ⟨F1, rfl⟩ : ∃ m, F1 = m + 1 := ⟨F1 - 1, by omega⟩
    have hk : k = 20 := by omega
    subst hk
    rw [fm_move_4_L3, if_pos (by decide)]
  | succ n ih =>
    intro k hk F1 h1
    obtain ⟨F1, rfl⟩ : ∃ m, F1 = m + 1 := ⟨F1 - 1, by omega⟩
    have tk := t_nI (show k < 2147483648 by omega)
    have xk := ix_nI (show k < 2147483648 by omega)
    obtain ⟨q1, q2⟩ := t_nn (a := 49) (b := k) (by omega)
    have hin : inb (nI k) 20 := b_in (by omega) (by omega)
    have hin2 : inb (nI 49 + nI k) 300 := b_in (by omega) (by omega)
    rw [fm_move_4_L3, if_neg (show ¬ (20 : Int32) ≤ nI k by rw [t_le, tk]; simp only [Int32.reduceToInt]; omega), jlet_e, if_pos rfl, gd_t hin2, gd_t hin, mlet_e, q2, xk, nI_1, rowI_wI, rowI_1, if_neg (show ¬ (159 : Nat) = 142 by omega)]
    have e := cpy_s (M.1 159) (M.1 142) 49 0 k
    skip
    rw [Nat.zero_add] at e
    skip
    rw [e]
    exact ih (k + 1) (by omega) F1 (by omega)
theorem mi_4 (M : Mem) : fm_move_4 M (nI 49) 0 = some (nI 69, (rowI M 142 (va_cpy (M.1 159) (M.1 142) 49 0 20))) := by
  have e := mi_4_L (M := M) (kx := fun M7 => some (nI 49 + 20, M7)) 20 0 (by omega) FU (by rw [FU_eq]; omega)
  rw [cpy_0, rowI_same] at e
  exact e
theorem mo_5_L {M : Mem} {kx : Mem → Option (Int32 × Mem)} : ∀ (n k : Nat), k + n = 20 → ∀ F1, n < F1 → fm_move_5_L3 (nI 69) 1 kx F1 (nI k) (rowI M 159 (va_cpy (M.1 143) (M.1 159) 0 69 k)) = kx (rowI M 159 (va_cpy (M.1 143) (M.1 159) 0 69 20)) := by
  intro n
  induction n with
  | zero =>
    intro k hk F1 h1
    obtain ⟨F1, rfl⟩ : ∃ m, F1 = m + 1 := ⟨F1 - 1, by omega⟩
    have hk : k = 20 := by omega
    subst hk
    rw [fm_move_5_L3, if_pos (by decide)]
  | succ n ih =>
    intro k hk F1 h1
    obtain ⟨F1, rfl⟩ : ∃ m, F1 = m + 1 := ⟨F1 - 1, by omega⟩
    have tk := t_nI (show k < 2147483648 by omega)
    have xk := ix_nI (show k < 2147483648 by omega)
    obtain ⟨q1, q2⟩ := t_nn (a := 69) (b := k) (by omega)
    have hin : inb (nI k) 20 := b_in (by omega) (by omega)
    have hin2 : inb (nI 69 + nI k) 300 := b_in (by omega) (by omega)
    rw [fm_move_5_L3, if_neg (show ¬ (20 : Int32) ≤ nI k by rw [t_le, tk]; simp only [Int32.reduceToInt]; omega), jlet_e, if_neg (show ¬ (1 : Int32) = 0 by decide), gd_t hin, gd_t hin2, mlet_e, q2, xk, nI_1, rowI_wI, rowI_1, if_neg (show ¬ (143 : Nat) = 159 by omega)]
    have e := cpy_s (M.1 143) (M.1 159) 0 69 k
    rw [Nat.zero_add] at e
    skip
    skip
    rw [e]
    exact ih (k + 1) (by omega) F1 (by omega)
theorem mo_5 (M : Mem) : fm_move_5 M (nI 69) 1 = some (nI 89, (rowI M 159 (va_cpy (M.1 143) (M.1 159) 0 69 20))) := by
  have e := mo_5_L (M := M) (kx := fun M7 => some (nI 69 + 20, M7)) 20 0 (by omega) FU (by rw [FU_eq]; omega)
  rw [cpy_0, rowI_same] at e
  exact e
theorem mi_5_L {M : Mem} {kx : Mem → Option (Int32 × Mem)} : ∀ (n k : Nat), k + n = 20 → ∀ F1, n < F1 → fm_move_5_L3 (nI 69) 0 kx F1 (nI k) (rowI M 143 (va_cpy (M.1 159) (M.1 143) 69 0 k)) = kx (rowI M 143 (va_cpy (M.1 159) (M.1 143) 69 0 20)) := by
  intro n
  induction n with
  | zero =>
    intro k hk F1 h1
    obtain ⟨F1, rfl⟩ : ∃ m, F1 = m + 1 := ⟨F1 - 1, by omega⟩
    have hk : k = 20 := by omega
    subst hk
    rw [fm_move_5_L3, if_pos (by decide)]
  | succ n ih =>
    intro k hk F1 h1
    obtain ⟨F1, rfl⟩ : ∃ m, F1 = m + 1 := ⟨F1 - 1, by omega⟩
    have tk := t_nI (show k < 2147483648 by omega)
    have xk := ix_nI (show k < 2147483648 by omega)
    obtain ⟨q1, q2⟩ := t_nn (a := 69) (b := k) (by omega)
    have hin : inb (nI k) 20 := b_in (by omega) (by omega)
    have hin2 : inb (nI 69 + nI k) 300 := b_in (by omega) (by omega)
    rw [fm_move_5_L3, if_neg (show ¬ (20 : Int32) ≤ nI k by rw [t_le, tk]; simp only [Int32.reduceToInt]; omega), jlet_e, if_pos rfl, gd_t hin2, gd_t hin, mlet_e, q2, xk, nI_1, rowI_wI, rowI_1, if_neg (show ¬ (159 : Nat) = 143 by omega)]
    have e := cpy_s (M.1 159) (M.1 143) 69 0 k
    skip
    rw [Nat.zero_add] at e
    skip
    rw [e]
    exact ih (k + 1) (by omega) F1 (by omega)
theorem mi_5 (M : Mem) : fm_move_5 M (nI 69) 0 = some (nI 89, (rowI M 143 (va_cpy (M.1 159) (M.1 143) 69 0 20))) := by
  have e := mi_5_L (M := M) (kx := fun M7 => some (nI 69 + 20, M7)) 20 0 (by omega) FU (by rw [FU_eq]; omega)
  rw [cpy_0, rowI_same] at e
  exact e
theorem mo_6_L {M : Mem} {kx : Mem → Option (Int32 × Mem)} : ∀ (n k : Nat), k + n = 20 → ∀ F1, n < F1 → fm_move_6_L3 (nI 89) 1 kx F1 (nI k) (rowI M 159 (va_cpy (M.1 144) (M.1 159) 0 89 k)) = kx (rowI M 159 (va_cpy (M.1 144) (M.1 159) 0 89 20)) := by
  intro n
  induction n with
  | zero =>
    intro k hk F1 h1
    obtain ⟨F1, rfl⟩ : ∃ m, F1 = m + 1 := ⟨F1 - 1, by omega⟩
    have hk : k = 20 := by omega
    subst hk
    rw [fm_move_6_L3, if_pos (by decide)]
  | succ n ih =>
    intro k hk F1 h1
    obtain ⟨F1, rfl⟩ : ∃ m, F1 = m + 1 := ⟨F1 - 1, by omega⟩
    have tk := t_nI (show k < 2147483648 by omega)
    have xk := ix_nI (show k < 2147483648 by omega)
    obtain ⟨q1, q2⟩ := t_nn (a := 89) (b := k) (by omega)
    have hin : inb (nI k) 20 := b_in (by omega) (by omega)
    have hin2 : inb (nI 89 + nI k) 300 := b_in (by omega) (by omega)
    rw [fm_move_6_L3, if_neg (show ¬ (20 : Int32) ≤ nI k by rw [t_le, tk]; simp only [Int32.reduceToInt]; omega), jlet_e, if_neg (show ¬ (1 : Int32) = 0 by decide), gd_t hin, gd_t hin2, mlet_e, q2, xk, nI_1, rowI_wI, rowI_1, if_neg (show ¬ (144 : Nat) = 159 by omega)]
    have e := cpy_s (M.1 144) (M.1 159) 0 89 k
    rw [Nat.zero_add] at e
    skip
    skip
    rw [e]
    exact ih (k + 1) (by omega) F1 (by omega)
theorem mo_6 (M : Mem) : fm_move_6 M (nI 89) 1 = some (nI 109, (rowI M 159 (va_cpy (M.1 144) (M.1 159) 0 89 20))) := by
  have e := mo_6_L (M := M) (kx := fun M7 => some (nI 89 + 20, M7)) 20 0 (by omega) FU (by rw [FU_eq]; omega)
  rw [cpy_0, rowI_same] at e
  exact e
theorem mi_6_L {M : Mem} {kx : Mem → Option (Int32 × Mem)} : ∀ (n k : Nat), k + n = 20 → ∀ F1, n < F1 → fm_move_6_L3 (nI 89) 0 kx F1 (nI k) (rowI M 144 (va_cpy (M.1 159) (M.1 144) 89 0 k)) = kx (rowI M 144 (va_cpy (M.1 159) (M.1 144) 89 0 20)) := by
  intro n
  induction n with
  | zero =>
    intro k hk F1 h1
    obtain ⟨F1, rfl⟩ : ∃ m, F1 = m + 1 := ⟨F1 - 1, by omega⟩
    have hk : k = 20 := by omega
    subst hk
    rw [fm_move_6_L3, if_pos (by decide)]
  | succ n ih =>
    intro k hk F1 h1
    obtain ⟨F1, rfl⟩ : ∃ m, F1 = m + 1 := ⟨F1 - 1, by omega⟩
    have tk := t_nI (show k < 2147483648 by omega)
    have xk := ix_nI (show k < 2147483648 by omega)
    obtain ⟨q1, q2⟩ := t_nn (a := 89) (b := k) (by omega)
    have hin : inb (nI k) 20 := b_in (by omega) (by omega)
    have hin2 : inb (nI 89 + nI k) 300 := b_in (by omega) (by omega)
    rw [fm_move_6_L3, if_neg (show ¬ (20 : Int32) ≤ nI k by rw [t_le, tk]; simp only [Int32.reduceToInt]; omega), jlet_e, if_pos rfl, gd_t hin2, gd_t hin, mlet_e, q2, xk, nI_1, rowI_wI, rowI_1, if_neg (show ¬ (159 : Nat) = 144 by omega)]
    have e := cpy_s (M.1 159) (M.1 144) 89 0 k
    skip
    rw [Nat.zero_add] at e
    skip
    rw [e]
    exact ih (k + 1) (by omega) F1 (by omega)
theorem mi_6 (M : Mem) : fm_move_6 M (nI 89) 0 = some (nI 109, (rowI M 144 (va_cpy (M.1 159) (M.1 144) 89 0 20))) := by
  have e := mi_6_L (M := M) (kx := fun M7 => some (nI 89 + 20, M7)) 20 0 (by omega) FU (by rw [FU_eq]; omega)
  rw [cpy_0, rowI_same] at e
  exact e
theorem mo_7_L {M : Mem} {kx : Mem → Option (Int32 × Mem)} : ∀ (n k : Nat), k + n = 20 → ∀ F1, n < F1 → fm_move_7_L3 (nI 109) 1 kx F1 (nI k) (rowI M 159 (va_cpy (M.1 145) (M.1 159) 0 109 k)) = kx (rowI M 159 (va_cpy (M.1 145) (M.1 159) 0 109 20)) := by
  intro n
  induction n with
  | zero =>
    intro k hk F1 h1
    obtain ⟨F1, rfl⟩ : ∃ m, F1 = m + 1 := ⟨F1 - 1, by omega⟩
    have hk : k = 20 := by omega
    subst hk
    rw [fm_move_7_L3, if_pos (by decide)]
  | succ n ih =>
    intro k hk F1 h1
    obtain ⟨F1, rfl⟩ : ∃ m, F1 = m + 1 := ⟨F1 - 1, by omega⟩
    have tk := t_nI (show k < 2147483648 by omega)
    have xk := ix_nI (show k < 2147483648 by omega)
    obtain ⟨q1, q2⟩ := t_nn (a := 109) (b := k) (by omega)
    have hin : inb (nI k) 20 := b_in (by omega) (by omega)
    have hin2 : inb (nI 109 + nI k) 300 := b_in (by omega) (by omega)
    rw [fm_move_7_L3, if_neg (show ¬ (20 : Int32) ≤ nI k by rw [t_le, tk]; simp only [Int32.reduceToInt]; omega), jlet_e, if_neg (show ¬ (1 : Int32) = 0 by decide), gd_t hin, gd_t hin2, mlet_e, q2, xk, nI_1, rowI_wI, rowI_1, if_neg (show ¬ (145 : Nat) = 159 by omega)]
    have e := cpy_s (M.1 145) (M.1 159) 0 109 k
    rw [Nat.zero_add] at e
    skip
    skip
    rw [e]
    exact ih (k + 1) (by omega) F1 (by omega)
theorem mo_7 (M : Mem) : fm_move_7 M (nI 109) 1 = some (nI 129, (rowI M 159 (va_cpy (M.1 145) (M.1 159) 0 109 20))) := by
  have e := mo_7_L (M := M) (kx := fun M7 => some (nI 109 + 20, M7)) 20 0 (by omega) FU (by rw [FU_eq]; omega)
  rw [cpy_0, rowI_same] at e
  exact e
theorem mi_7_L {M : Mem} {kx : Mem → Option (Int32 × Mem)} : ∀ (n k : Nat), k + n = 20 → ∀ F1, n < F1 → fm_move_7_L3 (nI 109) 0 kx F1 (nI k) (rowI M 145 (va_cpy (M.1 159) (M.1 145) 109 0 k)) = kx (rowI M 145 (va_cpy (M.1 159) (M.1 145) 109 0 20)) := by
  intro n
  induction n with
  | zero =>
    intro k hk F1 h1
    obtain ⟨F1, rfl⟩ : ∃ m, F1 = m + 1 := ⟨F1 - 1, by omega⟩
    have hk : k = 20 := by omega
    subst hk
    rw [fm_move_7_L3, if_pos (by decide)]
  | succ n ih =>
    intro k hk F1 h1
    obtain ⟨F1, rfl⟩ : ∃ m, F1 = m + 1 := ⟨F1 - 1, by omega⟩
    have tk := t_nI (show k < 2147483648 by omega)
    have xk := ix_nI (show k < 2147483648 by omega)
    obtain ⟨q1, q2⟩ := t_nn (a := 109) (b := k) (by omega)
    have hin : inb (nI k) 20 := b_in (by omega) (by omega)
    have hin2 : inb (nI 109 + nI k) 300 := b_in (by omega) (by omega)
    rw [fm_move_7_L3, if_neg (show ¬ (20 : Int32) ≤ nI k by rw [t_le, tk]; simp only [Int32.reduceToInt]; omega), jlet_e, if_pos rfl, gd_t hin2, gd_t hin, mlet_e, q2, xk, nI_1, rowI_wI, rowI_1, if_neg (show ¬ (159 : Nat) = 145 by omega)]
    have e := cpy_s (M.1 159) (M.1 145) 109 0 k
    skip
    rw [Nat.zero_add] at e
    skip
    rw [e]
    exact ih (k + 1) (by omega) F1 (by omega)
theorem mi_7 (M : Mem) : fm_move_7 M (nI 109) 0 = some (nI 129, (rowI M 145 (va_cpy (M.1 159) (M.1 145) 109 0 20))) := by
  have e := mi_7_L (M := M) (kx := fun M7 => some (nI 109 + 20, M7)) 20 0 (by omega) FU (by rw [FU_eq]; omega)
  rw [cpy_0, rowI_same] at e
  exact e
theorem mo_8_L {M : Mem} {kx : Mem → Option (Int32 × Mem)} : ∀ (n k : Nat), k + n = 20 → ∀ F1, n < F1 → fm_move_8_L3 (nI 129) 1 kx F1 (nI k) (rowI M 159 (va_cpy (M.1 146) (M.1 159) 0 129 k)) = kx (rowI M 159 (va_cpy (M.1 146) (M.1 159) 0 129 20)) := by
  intro n
  induction n with
  | zero =>
    intro k hk F1 h1
    obtain ⟨F1, rfl⟩ : ∃ m, F1 = m + 1 := ⟨F1 - 1, by omega⟩
    have hk : k = 20 := by omega
    subst hk
    rw [fm_move_8_L3, if_pos (by decide)]
  | succ n ih =>
    intro k hk F1 h1
    obtain ⟨F1, rfl⟩ : ∃ m, F1 = m + 1 := ⟨F1 - 1, by omega⟩
    have tk := t_nI (show k < 2147483648 by omega)
    have xk := ix_nI (show k < 2147483648 by omega)
    obtain ⟨q1, q2⟩ := t_nn (a := 129) (b := k) (by omega)
    have hin : inb (nI k) 20 := b_in (by omega) (by omega)
    have hin2 : inb (nI 129 + nI k) 300 := b_in (by omega) (by omega)
    rw [fm_move_8_L3, if_neg (show ¬ (20 : Int32) ≤ nI k by rw [t_le, tk]; simp only [Int32.reduceToInt]; omega), jlet_e, if_neg (show ¬ (1 : Int32) = 0 by decide), gd_t hin, gd_t hin2, mlet_e, q2, xk, nI_1, rowI_wI, rowI_1, if_neg (show ¬ (146 : Nat) = 159 by omega)]
    have e := cpy_s (M.1 146) (M.1 159) 0 129 k
    rw [Nat.zero_add] at e
    skip
    skip
    rw [e]
    exact ih (k + 1) (by omega) F1 (by omega)
theorem mo_8 (M : Mem) : fm_move_8 M (nI 129) 1 = some (nI 149, (rowI M 159 (va_cpy (M.1 146) (M.1 159) 0 129 20))) := by
  have e := mo_8_L (M := M) (kx := fun M7 => some (nI 129 + 20, M7)) 20 0 (by omega) FU (by rw [FU_eq]; omega)
  rw [cpy_0, rowI_same] at e
  exact e
theorem mi_8_L {M : Mem} {kx : Mem → Option (Int32 × Mem)} : ∀ (n k : Nat), k + n = 20 → ∀ F1, n < F1 → fm_move_8_L3 (nI 129) 0 kx F1 (nI k) (rowI M 146 (va_cpy (M.1 159) (M.1 146) 129 0 k)) = kx (rowI M 146 (va_cpy (M.1 159) (M.1 146) 129 0 20)) := by
  intro n
  induction n with
  | zero =>
    intro k hk F1 h1
    obtain ⟨F1, rfl⟩ : ∃ m, F1 = m + 1 := ⟨F1 - 1, by omega⟩
    have hk : k = 20 := by omega
    subst hk
    rw [fm_move_8_L3, if_pos (by decide)]
  | succ n ih =>
    intro k hk F1 h1
    obtain ⟨F1, rfl⟩ : ∃ m, F1 = m + 1 := ⟨F1 - 1, by omega⟩
    have tk := t_nI (show k < 2147483648 by omega)
    have xk := ix_nI (show k < 2147483648 by omega)
    obtain ⟨q1, q2⟩ := t_nn (a := 129) (b := k) (by omega)
    have hin : inb (nI k) 20 := b_in (by omega) (by omega)
    have hin2 : inb (nI 129 + nI k) 300 := b_in (by omega) (by omega)
    rw [fm_move_8_L3, if_neg (show ¬ (20 : Int32) ≤ nI k by rw [t_le, tk]; simp only [Int32.reduceToInt]; omega), jlet_e, if_pos rfl, gd_t hin2, gd_t hin, mlet_e, q2, xk, nI_1, rowI_wI, rowI_1, if_neg (show ¬ (159 : Nat) = 146 by omega)]
    have e := cpy_s (M.1 159) (M.1 146) 129 0 k
    skip
    rw [Nat.zero_add] at e
    skip
    rw [e]
    exact ih (k + 1) (by omega) F1 (by omega)
theorem mi_8 (M : Mem) : fm_move_8 M (nI 129) 0 = some (nI 149, (rowI M 146 (va_cpy (M.1 159) (M.1 146) 129 0 20))) := by
  have e := mi_8_L (M := M) (kx := fun M7 => some (nI 129 + 20, M7)) 20 0 (by omega) FU (by rw [FU_eq]; omega)
  rw [cpy_0, rowI_same] at e
  exact e
theorem mo_9_L {M : Mem} {kx : Mem → Option (Int32 × Mem)} : ∀ (n k : Nat), k + n = 54 → ∀ F1, n < F1 → fm_move_9_L3 (nI 149) 1 kx F1 (nI k) (rowI M 159 (va_cpy (M.1 148) (M.1 159) 0 149 k)) = kx (rowI M 159 (va_cpy (M.1 148) (M.1 159) 0 149 54)) := by
  intro n
  induction n with
  | zero =>
    intro k hk F1 h1
    obtain ⟨F1, rfl⟩ : ∃ m, F1 = m + 1 := ⟨F1 - 1, by omega⟩
    have hk : k = 54 := by omega
    subst hk
    rw [fm_move_9_L3, if_pos (by decide)]
  | succ n ih =>
    intro k hk F1 h1
    obtain ⟨F1, rfl⟩ : ∃ m, F1 = m + 1 := ⟨F1 - 1, by omega⟩
    have tk := t_nI (show k < 2147483648 by omega)
    have xk := ix_nI (show k < 2147483648 by omega)
    obtain ⟨q1, q2⟩ := t_nn (a := 149) (b := k) (by omega)
    have hin : inb (nI k) 54 := b_in (by omega) (by omega)
    have hin2 : inb (nI 149 + nI k) 300 := b_in (by omega) (by omega)
    rw [fm_move_9_L3, if_neg (show ¬ (54 : Int32) ≤ nI k by rw [t_le, tk]; simp only [Int32.reduceToInt]; omega), jlet_e, if_neg (show ¬ (1 : Int32) = 0 by decide), gd_t hin, gd_t hin2, mlet_e, q2, xk, nI_1, rowI_wI, rowI_1, if_neg (show ¬ (148 : Nat) = 159 by omega)]
    have e := cpy_s (M.1 148) (M.1 159) 0 149 k
    rw [Nat.zero_add] at e
    skip
    skip
    rw [e]
    exact ih (k + 1) (by omega) F1 (by omega)
theorem mo_9 (M : Mem) : fm_move_9 M (nI 149) 1 = some (nI 203, (rowI M 159 (va_cpy (M.1 148) (M.1 159) 0 149 54))) := by
  have e := mo_9_L (M := M) (kx := fun M7 => some (nI 149 + 54, M7)) 54 0 (by omega) FU (by rw [FU_eq]; omega)
  rw [cpy_0, rowI_same] at e
  exact e
theorem mi_9_L {M : Mem} {kx : Mem → Option (Int32 × Mem)} : ∀ (n k : Nat), k + n = 54 → ∀ F1, n < F1 → fm_move_9_L3 (nI 149) 0 kx F1 (nI k) (rowI M 148 (va_cpy (M.1 159) (M.1 148) 149 0 k)) = kx (rowI M 148 (va_cpy (M.1 159) (M.1 148) 149 0 54)) := by
  intro n
  induction n with
  | zero =>
    intro k hk F1 h1
    obtain ⟨F1, rfl⟩ : ∃ m, F1 = m + 1 := ⟨F1 - 1, by omega⟩
    have hk : k = 54 := by omega
    subst hk
    rw [fm_move_9_L3, if_pos (by decide)]
  | succ n ih =>
    intro k hk F1 h1
    obtain ⟨F1, rfl⟩ : ∃ m, F1 = m + 1 := ⟨F1 - 1, by omega⟩
    have tk := t_nI (show k < 2147483648 by omega)
    have xk := ix_nI (show k < 2147483648 by omega)
    obtain ⟨q1, q2⟩ := t_nn (a := 149) (b := k) (by omega)
    have hin : inb (nI k) 54 := b_in (by omega) (by omega)
    have hin2 : inb (nI 149 + nI k) 300 := b_in (by omega) (by omega)
    rw [fm_move_9_L3, if_neg (show ¬ (54 : Int32) ≤ nI k by rw [t_le, tk]; simp only [Int32.reduceToInt]; omega), jlet_e, if_pos rfl, gd_t hin2, gd_t hin, mlet_e, q2, xk, nI_1, rowI_wI, rowI_1, if_neg (show ¬ (159 : Nat) = 148 by omega)]
    have e := cpy_s (M.1 159) (M.1 148) 149 0 k
    skip
    rw [Nat.zero_add] at e
    skip
    rw [e]
    exact ih (k + 1) (by omega) F1 (by omega)
theorem mi_9 (M : Mem) : fm_move_9 M (nI 149) 0 = some (nI 203, (rowI M 148 (va_cpy (M.1 159) (M.1 148) 149 0 54))) := by
  have e := mi_9_L (M := M) (kx := fun M7 => some (nI 149 + 54, M7)) 54 0 (by omega) FU (by rw [FU_eq]; omega)
  rw [cpy_0, rowI_same] at e
  exact e
theorem mo_10_L {M : Mem} {kx : Mem → Option (Int32 × Mem)} : ∀ (n k : Nat), k + n = 6 → ∀ F1, n < F1 → fm_move_10_L3 (nI 203) 1 kx F1 (nI k) (rowI M 159 (va_cpy (M.1 149) (M.1 159) 0 203 k)) = kx (rowI M 159 (va_cpy (M.1 149) (M.1 159) 0 203 6)) := by
  intro n
  induction n with
  | zero =>
    intro k hk F1 h1
    obtain ⟨F1, rfl⟩ : ∃ m, F1 = m + 1 := ⟨F1 - 1, by omega⟩
    have hk : k = 6 := by omega
    subst hk
    rw [fm_move_10_L3, if_pos (by decide)]
  | succ n ih =>
    intro k hk F1 h1
    obtain ⟨F1, rfl⟩ : ∃ m, F1 = m + 1 := ⟨F1 - 1, by omega⟩
    have tk := t_nI (show k < 2147483648 by omega)
    have xk := ix_nI (show k < 2147483648 by omega)
    obtain ⟨q1, q2⟩ := t_nn (a := 203) (b := k) (by omega)
    have hin : inb (nI k) 6 := b_in (by omega) (by omega)
    have hin2 : inb (nI 203 + nI k) 300 := b_in (by omega) (by omega)
    rw [fm_move_10_L3, if_neg (show ¬ (6 : Int32) ≤ nI k by rw [t_le, tk]; simp only [Int32.reduceToInt]; omega), jlet_e, if_neg (show ¬ (1 : Int32) = 0 by decide), gd_t hin, gd_t hin2, mlet_e, q2, xk, nI_1, rowI_wI, rowI_1, if_neg (show ¬ (149 : Nat) = 159 by omega)]
    have e := cpy_s (M.1 149) (M.1 159) 0 203 k
    rw [Nat.zero_add] at e
    skip
    skip
    rw [e]
    exact ih (k + 1) (by omega) F1 (by omega)
theorem mo_10 (M : Mem) : fm_move_10 M (nI 203) 1 = some (nI 209, (rowI M 159 (va_cpy (M.1 149) (M.1 159) 0 203 6))) := by
  have e := mo_10_L (M := M) (kx := fun M7 => some (nI 203 + 6, M7)) 6 0 (by omega) FU (by rw [FU_eq]; omega)
  rw [cpy_0, rowI_same] at e
  exact e
theorem mi_10_L {M : Mem} {kx : Mem → Option (Int32 × Mem)} : ∀ (n k : Nat), k + n = 6 → ∀ F1, n < F1 → fm_move_10_L3 (nI 203) 0 kx F1 (nI k) (rowI M 149 (va_cpy (M.1 159) (M.1 149) 203 0 k)) = kx (rowI M 149 (va_cpy (M.1 159) (M.1 149) 203 0 6)) := by
  intro n
  induction n with
  | zero =>
    intro k hk F1 h1
    obtain ⟨F1, rfl⟩ : ∃ m, F1 = m + 1 := ⟨F1 - 1, by omega⟩
    have hk : k = 6 := by omega
    subst hk
    rw [fm_move_10_L3, if_pos (by decide)]
  | succ n ih =>
    intro k hk F1 h1
    obtain ⟨F1, rfl⟩ : ∃ m, F1 = m + 1 := ⟨F1 - 1, by omega⟩
    have tk := t_nI (show k < 2147483648 by omega)
    have xk := ix_nI (show k < 2147483648 by omega)
    obtain ⟨q1, q2⟩ := t_nn (a := 203) (b := k) (by omega)
    have hin : inb (nI k) 6 := b_in (by omega) (by omega)
    have hin2 : inb (nI 203 + nI k) 300 := b_in (by omega) (by omega)
    rw [fm_move_10_L3, if_neg (show ¬ (6 : Int32) ≤ nI k by rw [t_le, tk]; simp only [Int32.reduceToInt]; omega), jlet_e, if_pos rfl, gd_t hin2, gd_t hin, mlet_e, q2, xk, nI_1, rowI_wI, rowI_1, if_neg (show ¬ (159 : Nat) = 149 by omega)]
    have e := cpy_s (M.1 159) (M.1 149) 203 0 k
    skip
    rw [Nat.zero_add] at e
    skip
    rw [e]
    exact ih (k + 1) (by omega) F1 (by omega)
theorem mi_10 (M : Mem) : fm_move_10 M (nI 203) 0 = some (nI 209, (rowI M 149 (va_cpy (M.1 159) (M.1 149) 203 0 6))) := by
  have e := mi_10_L (M := M) (kx := fun M7 => some (nI 203 + 6, M7)) 6 0 (by omega) FU (by rw [FU_eq]; omega)
  rw [cpy_0, rowI_same] at e
  exact e
theorem mo_11_L {M : Mem} {kx : Mem → Option (Int32 × Mem)} : ∀ (n k : Nat), k + n = 6 → ∀ F1, n < F1 → fm_move_11_L3 (nI 209) 1 kx F1 (nI k) (rowI M 159 (va_cpy (M.1 150) (M.1 159) 0 209 k)) = kx (rowI M 159 (va_cpy (M.1 150) (M.1 159) 0 209 6)) := by
  intro n
  induction n with
  | zero =>
    intro k hk F1 h1
    obtain ⟨F1, rfl⟩ : ∃ m, F1 = m + 1 := ⟨F1 - 1, by omega⟩
    have hk : k = 6 := by omega
    subst hk
    rw [fm_move_11_L3, if_pos (by decide)]
  | succ n ih =>
    intro k hk F1 h1
    obtain ⟨F1, rfl⟩ : ∃ m, F1 = m + 1 := ⟨F1 - 1, by omega⟩
    have tk := t_nI (show k < 2147483648 by omega)
    have xk := ix_nI (show k < 2147483648 by omega)
    obtain ⟨q1, q2⟩ := t_nn (a := 209) (b := k) (by omega)
    have hin : inb (nI k) 6 := b_in (by omega) (by omega)
    have hin2 : inb (nI 209 + nI k) 300 := b_in (by omega) (by omega)
    rw [fm_move_11_L3, if_neg (show ¬ (6 : Int32) ≤ nI k by rw [t_le, tk]; simp only [Int32.reduceToInt]; omega), jlet_e, if_neg (show ¬ (1 : Int32) = 0 by decide), gd_t hin, gd_t hin2, mlet_e, q2, xk, nI_1, rowI_wI, rowI_1, if_neg (show ¬ (150 : Nat) = 159 by omega)]
    have e := cpy_s (M.1 150) (M.1 159) 0 209 k
    rw [Nat.zero_add] at e
    skip
    skip
    rw [e]
    exact ih (k + 1) (by omega) F1 (by omega)
theorem mo_11 (M : Mem) : fm_move_11 M (nI 209) 1 = some (nI 215, (rowI M 159 (va_cpy (M.1 150) (M.1 159) 0 209 6))) := by
  have e := mo_11_L (M := M) (kx := fun M7 => some (nI 209 + 6, M7)) 6 0 (by omega) FU (by rw [FU_eq]; omega)
  rw [cpy_0, rowI_same] at e
  exact e
theorem mi_11_L {M : Mem} {kx : Mem → Option (Int32 × Mem)} : ∀ (n k : Nat), k + n = 6 → ∀ F1, n < F1 → fm_move_11_L3 (nI 209) 0 kx F1 (nI k) (rowI M 150 (va_cpy (M.1 159) (M.1 150) 209 0 k)) = kx (rowI M 150 (va_cpy (M.1 159) (M.1 150) 209 0 6)) := by
  intro n
  induction n with
  | zero =>
    intro k hk F1 h1
    obtain ⟨F1, rfl⟩ : ∃ m, F1 = m + 1 := ⟨F1 - 1, by omega⟩
    have hk : k = 6 := by omega
    subst hk
    rw [fm_move_11_L3, if_pos (by decide)]
  | succ n ih =>
    intro k hk F1 h1
    obtain ⟨F1, rfl⟩ : ∃ m, F1 = m + 1 := ⟨F1 - 1, by omega⟩
    have tk := t_nI (show k < 2147483648 by omega)
    have xk := ix_nI (show k < 2147483648 by omega)
    obtain ⟨q1, q2⟩ := t_nn (a := 209) (b := k) (by omega)
    have hin : inb (nI k) 6 := b_in (by omega) (by omega)
    have hin2 : inb (nI 209 + nI k) 300 := b_in (by omega) (by omega)
    rw [fm_move_11_L3, if_neg (show ¬ (6 : Int32) ≤ nI k by rw [t_le, tk]; simp only [Int32.reduceToInt]; omega), jlet_e, if_pos rfl, gd_t hin2, gd_t hin, mlet_e, q2, xk, nI_1, rowI_wI, rowI_1, if_neg (show ¬ (159 : Nat) = 150 by omega)]
    have e := cpy_s (M.1 159) (M.1 150) 209 0 k
    skip
    rw [Nat.zero_add] at e
    skip
    rw [e]
    exact ih (k + 1) (by omega) F1 (by omega)
theorem mi_11 (M : Mem) : fm_move_11 M (nI 209) 0 = some (nI 215, (rowI M 150 (va_cpy (M.1 159) (M.1 150) 209 0 6))) := by
  have e := mi_11_L (M := M) (kx := fun M7 => some (nI 209 + 6, M7)) 6 0 (by omega) FU (by rw [FU_eq]; omega)
  rw [cpy_0, rowI_same] at e
  exact e
theorem mo_12_L {M : Mem} {kx : Mem → Option (Int32 × Mem)} : ∀ (n k : Nat), k + n = 6 → ∀ F1, n < F1 → fm_move_12_L3 (nI 215) 1 kx F1 (nI k) (rowI M 159 (va_cpy (M.1 151) (M.1 159) 0 215 k)) = kx (rowI M 159 (va_cpy (M.1 151) (M.1 159) 0 215 6)) := by
  intro n
  induction n with
  | zero =>
    intro k hk F1 h1
    obtain ⟨F1, rfl⟩ : ∃ m, F1 = m + 1 := ⟨F1 - 1, by omega⟩
    have hk : k = 6 := by omega
    subst hk
    rw [fm_move_12_L3, if_pos (by decide)]
  | succ n ih =>
    intro k hk F1 h1
    obtain ⟨F1, rfl⟩ : ∃ m, F1 = m + 1 := ⟨F1 - 1, by omega⟩
    have tk := t_nI (show k < 2147483648 by omega)
    have xk := ix_nI (show k < 2147483648 by omega)
    obtain ⟨q1, q2⟩ := t_nn (a := 215) (b := k) (by omega)
    have hin : inb (nI k) 6 := b_in (by omega) (by omega)
    have hin2 : inb (nI 215 + nI k) 300 := b_in (by omega) (by omega)
    rw [fm_move_12_L3, if_neg (show ¬ (6 : Int32) ≤ nI k by rw [t_le, tk]; simp only [Int32.reduceToInt]; omega), jlet_e, if_neg (show ¬ (1 : Int32) = 0 by decide), gd_t hin, gd_t hin2, mlet_e, q2, xk, nI_1, rowI_wI, rowI_1, if_neg (show ¬ (151 : Nat) = 159 by omega)]
    have e := cpy_s (M.1 151) (M.1 159) 0 215 k
    rw [Nat.zero_add] at e
    skip
    skip
    rw [e]
    exact ih (k + 1) (by omega) F1 (by omega)
theorem mo_12 (M : Mem) : fm_move_12 M (nI 215) 1 = some (nI 221, (rowI M 159 (va_cpy (M.1 151) (M.1 159) 0 215 6))) := by
  have e := mo_12_L (M := M) (kx := fun M7 => some (nI 215 + 6, M7)) 6 0 (by omega) FU (by rw [FU_eq]; omega)
  rw [cpy_0, rowI_same] at e
  exact e
theorem mi_12_L {M : Mem} {kx : Mem → Option (Int32 × Mem)} : ∀ (n k : Nat), k + n = 6 → ∀ F1, n < F1 → fm_move_12_L3 (nI 215) 0 kx F1 (nI k) (rowI M 151 (va_cpy (M.1 159) (M.1 151) 215 0 k)) = kx (rowI M 151 (va_cpy (M.1 159) (M.1 151) 215 0 6)) := by
  intro n
  induction n with
  | zero =>
    intro k hk F1 h1
    obtain ⟨F1, rfl⟩ : ∃ m, F1 = m + 1 := ⟨F1 - 1, by omega⟩
    have hk : k = 6 := by omega
    subst hk
    rw [fm_move_12_L3, if_pos (by decide)]
  | succ n ih =>
    intro k hk F1 h1
    obtain ⟨F1, rfl⟩ : ∃ m, F1 = m + 1 := ⟨F1 - 1, by omega⟩
    have tk := t_nI (show k < 2147483648 by omega)
    have xk := ix_nI (show k < 2147483648 by omega)
    obtain ⟨q1, q2⟩ := t_nn (a := 215) (b := k) (by omega)
    have hin : inb (nI k) 6 := b_in (by omega) (by omega)
    have hin2 : inb (nI 215 + nI k) 300 := b_in (by omega) (by omega)
    rw [fm_move_12_L3, if_neg (show ¬ (6 : Int32) ≤ nI k by rw [t_le, tk]; simp only [Int32.reduceToInt]; omega), jlet_e, if_pos rfl, gd_t hin2, gd_t hin, mlet_e, q2, xk, nI_1, rowI_wI, rowI_1, if_neg (show ¬ (159 : Nat) = 151 by omega)]
    have e := cpy_s (M.1 159) (M.1 151) 215 0 k
    skip
    rw [Nat.zero_add] at e
    skip
    rw [e]
    exact ih (k + 1) (by omega) F1 (by omega)
theorem mi_12 (M : Mem) : fm_move_12 M (nI 215) 0 = some (nI 221, (rowI M 151 (va_cpy (M.1 159) (M.1 151) 215 0 6))) := by
  have e := mi_12_L (M := M) (kx := fun M7 => some (nI 215 + 6, M7)) 6 0 (by omega) FU (by rw [FU_eq]; omega)
  rw [cpy_0, rowI_same] at e
  exact e
theorem mo_13_L {M : Mem} {kx : Mem → Option (Int32 × Mem)} : ∀ (n k : Nat), k + n = 10 → ∀ F1, n < F1 → fm_move_13_L3 (nI 221) 1 kx F1 (nI k) (rowI M 159 (va_cpy (M.1 152) (M.1 159) 0 221 k)) = kx (rowI M 159 (va_cpy (M.1 152) (M.1 159) 0 221 10)) := by
  intro n
  induction n with
  | zero =>
    intro k hk F1 h1
    obtain ⟨F1, rfl⟩ : ∃ m, F1 = m + 1 := ⟨F1 - 1, by omega⟩
    have hk : k = 10 := by omega
    subst hk
    rw [fm_move_13_L3, if_pos (by decide)]
  | succ n ih =>
    intro k hk F1 h1
    obtain ⟨F1, rfl⟩ : ∃ m, F1 = m + 1 := ⟨F1 - 1, by omega⟩
    have tk := t_nI (show k < 2147483648 by omega)
    have xk := ix_nI (show k < 2147483648 by omega)
    obtain ⟨q1, q2⟩ := t_nn (a := 221) (b := k) (by omega)
    have hin : inb (nI k) 10 := b_in (by omega) (by omega)
    have hin2 : inb (nI 221 + nI k) 300 := b_in (by omega) (by omega)
    rw [fm_move_13_L3, if_neg (show ¬ (10 : Int32) ≤ nI k by rw [t_le, tk]; simp only [Int32.reduceToInt]; omega), jlet_e, if_neg (show ¬ (1 : Int32) = 0 by decide), gd_t hin, gd_t hin2, mlet_e, q2, xk, nI_1, rowI_wI, rowI_1, if_neg (show ¬ (152 : Nat) = 159 by omega)]
    have e := cpy_s (M.1 152) (M.1 159) 0 221 k
    rw [Nat.zero_add] at e
    skip
    skip
    rw [e]
    exact ih (k + 1) (by omega) F1 (by omega)
theorem mo_13 (M : Mem) : fm_move_13 M (nI 221) 1 = some (nI 231, (rowI M 159 (va_cpy (M.1 152) (M.1 159) 0 221 10))) := by
  have e := mo_13_L (M := M) (kx := fun M7 => some (nI 221 + 10, M7)) 10 0 (by omega) FU (by rw [FU_eq]; omega)
  rw [cpy_0, rowI_same] at e
  exact e
theorem mi_13_L {M : Mem} {kx : Mem → Option (Int32 × Mem)} : ∀ (n k : Nat), k + n = 10 → ∀ F1, n < F1 → fm_move_13_L3 (nI 221) 0 kx F1 (nI k) (rowI M 152 (va_cpy (M.1 159) (M.1 152) 221 0 k)) = kx (rowI M 152 (va_cpy (M.1 159) (M.1 152) 221 0 10)) := by
  intro n
  induction n with
  | zero =>
    intro k hk F1 h1
    obtain ⟨F1, rfl⟩ : ∃ m, F1 = m + 1 := ⟨F1 - 1, by omega⟩
    have hk : k = 10 := by omega
    subst hk
    rw [fm_move_13_L3, if_pos (by decide)]
  | succ n ih =>
    intro k hk F1 h1
    obtain ⟨F1, rfl⟩ : ∃ m, F1 = m + 1 := ⟨F1 - 1, by omega⟩
    have tk := t_nI (show k < 2147483648 by omega)
    have xk := ix_nI (show k < 2147483648 by omega)
    obtain ⟨q1, q2⟩ := t_nn (a := 221) (b := k) (by omega)
    have hin : inb (nI k) 10 := b_in (by omega) (by omega)
    have hin2 : inb (nI 221 + nI k) 300 := b_in (by omega) (by omega)
    rw [fm_move_13_L3, if_neg (show ¬ (10 : Int32) ≤ nI k by rw [t_le, tk]; simp only [Int32.reduceToInt]; omega), jlet_e, if_pos rfl, gd_t hin2, gd_t hin, mlet_e, q2, xk, nI_1, rowI_wI, rowI_1, if_neg (show ¬ (159 : Nat) = 152 by omega)]
    have e := cpy_s (M.1 159) (M.1 152) 221 0 k
    skip
    rw [Nat.zero_add] at e
    skip
    rw [e]
    exact ih (k + 1) (by omega) F1 (by omega)
theorem mi_13 (M : Mem) : fm_move_13 M (nI 221) 0 = some (nI 231, (rowI M 152 (va_cpy (M.1 159) (M.1 152) 221 0 10))) := by
  have e := mi_13_L (M := M) (kx := fun M7 => some (nI 221 + 10, M7)) 10 0 (by omega) FU (by rw [FU_eq]; omega)
  rw [cpy_0, rowI_same] at e
  exact e
theorem mo_14_L {M : Mem} {kx : Mem → Option (Int32 × Mem)} : ∀ (n k : Nat), k + n = 10 → ∀ F1, n < F1 → fm_move_14_L3 (nI 231) 1 kx F1 (nI k) (rowI M 159 (va_cpy (M.1 153) (M.1 159) 0 231 k)) = kx (rowI M 159 (va_cpy (M.1 153) (M.1 159) 0 231 10)) := by
  intro n
  induction n with
  | zero =>
    intro k hk F1 h1
    obtain ⟨F1, rfl⟩ : ∃ m, F1 = m + 1 := ⟨F1 - 1, by omega⟩
    have hk : k = 10 := by omega
    subst hk
    rw [fm_move_14_L3, if_pos (by decide)]
  | succ n ih =>
    intro k hk F1 h1
    obtain ⟨F1, rfl⟩ : ∃ m, F1 = m + 1 := ⟨F1 - 1, by omega⟩
    have tk := t_nI (show k < 2147483648 by omega)
    have xk := ix_nI (show k < 2147483648 by omega)
    obtain ⟨q1, q2⟩ := t_nn (a := 231) (b := k) (by omega)
    have hin : inb (nI k) 10 := b_in (by omega) (by omega)
    have hin2 : inb (nI 231 + nI k) 300 := b_in (by omega) (by omega)
    rw [fm_move_14_L3, if_neg (show ¬ (10 : Int32) ≤ nI k by rw [t_le, tk]; simp only [Int32.reduceToInt]; omega), jlet_e, if_neg (show ¬ (1 : Int32) = 0 by decide), gd_t hin, gd_t hin2, mlet_e, q2, xk, nI_1, rowI_wI, rowI_1, if_neg (show ¬ (153 : Nat) = 159 by omega)]
    have e := cpy_s (M.1 153) (M.1 159) 0 231 k
    rw [Nat.zero_add] at e
    skip
    skip
    rw [e]
    exact ih (k + 1) (by omega) F1 (by omega)
theorem mo_14 (M : Mem) : fm_move_14 M (nI 231) 1 = some (nI 241, (rowI M 159 (va_cpy (M.1 153) (M.1 159) 0 231 10))) := by
  have e := mo_14_L (M := M) (kx := fun M7 => some (nI 231 + 10, M7)) 10 0 (by omega) FU (by rw [FU_eq]; omega)
  rw [cpy_0, rowI_same] at e
  exact e
theorem mi_14_L {M : Mem} {kx : Mem → Option (Int32 × Mem)} : ∀ (n k : Nat), k + n = 10 → ∀ F1, n < F1 → fm_move_14_L3 (nI 231) 0 kx F1 (nI k) (rowI M 153 (va_cpy (M.1 159) (M.1 153) 231 0 k)) = kx (rowI M 153 (va_cpy (M.1 159) (M.1 153) 231 0 10)) := by
  intro n
  induction n with
  | zero =>
    intro k hk F1 h1
    obtain ⟨F1, rfl⟩ : ∃ m, F1 = m + 1 := ⟨F1 - 1, by omega⟩
    have hk : k = 10 := by omega
    subst hk
    rw [fm_move_14_L3, if_pos (by decide)]
  | succ n ih =>
    intro k hk F1 h1
    obtain ⟨F1, rfl⟩ : ∃ m, F1 = m + 1 := ⟨F1 - 1, by omega⟩
    have tk := t_nI (show k < 2147483648 by omega)
    have xk := ix_nI (show k < 2147483648 by omega)
    obtain ⟨q1, q2⟩ := t_nn (a := 231) (b := k) (by omega)
    have hin : inb (nI k) 10 := b_in (by omega) (by omega)
    have hin2 : inb (nI 231 + nI k) 300 := b_in (by omega) (by omega)
    rw [fm_move_14_L3, if_neg (show ¬ (10 : Int32) ≤ nI k by rw [t_le, tk]; simp only [Int32.reduceToInt]; omega), jlet_e, if_pos rfl, gd_t hin2, gd_t hin, mlet_e, q2, xk, nI_1, rowI_wI, rowI_1, if_neg (show ¬ (159 : Nat) = 153 by omega)]
    have e := cpy_s (M.1 159) (M.1 153) 231 0 k
    skip
    rw [Nat.zero_add] at e
    skip
    rw [e]
    exact ih (k + 1) (by omega) F1 (by omega)
theorem mi_14 (M : Mem) : fm_move_14 M (nI 231) 0 = some (nI 241, (rowI M 153 (va_cpy (M.1 159) (M.1 153) 231 0 10))) := by
  have e := mi_14_L (M := M) (kx := fun M7 => some (nI 231 + 10, M7)) 10 0 (by omega) FU (by rw [FU_eq]; omega)
  rw [cpy_0, rowI_same] at e
  exact e
theorem mo_15_L {M : Mem} {kx : Mem → Option (Int32 × Mem)} : ∀ (n k : Nat), k + n = 10 → ∀ F1, n < F1 → fm_move_15_L3 (nI 241) 1 kx F1 (nI k) (rowI M 159 (va_cpy (M.1 154) (M.1 159) 0 241 k)) = kx (rowI M 159 (va_cpy (M.1 154) (M.1 159) 0 241 10)) := by
  intro n
  induction n with
  | zero =>
    intro k hk F1 h1
    obtain ⟨F1, rfl⟩ : ∃ m, F1 = m + 1 := ⟨F1 - 1, by omega⟩
    have hk : k = 10 := by omega
    subst hk
    rw [fm_move_15_L3, if_pos (by decide)]
  | succ n ih =>
    intro k hk F1 h1
    obtain ⟨F1, rfl⟩ : ∃ m, F1 = m + 1 := ⟨F1 - 1, by omega⟩
    have tk := t_nI (show k < 2147483648 by omega)
    have xk := ix_nI (show k < 2147483648 by omega)
    obtain ⟨q1, q2⟩ := t_nn (a := 241) (b := k) (by omega)
    have hin : inb (nI k) 10 := b_in (by omega) (by omega)
    have hin2 : inb (nI 241 + nI k) 300 := b_in (by omega) (by omega)
    rw [fm_move_15_L3, if_neg (show ¬ (10 : Int32) ≤ nI k by rw [t_le, tk]; simp only [Int32.reduceToInt]; omega), jlet_e, if_neg (show ¬ (1 : Int32) = 0 by decide), gd_t hin, gd_t hin2, mlet_e, q2, xk, nI_1, rowI_wI, rowI_1, if_neg (show ¬ (154 : Nat) = 159 by omega)]
    have e := cpy_s (M.1 154) (M.1 159) 0 241 k
    rw [Nat.zero_add] at e
    skip
    skip
    rw [e]
    exact ih (k + 1) (by omega) F1 (by omega)
theorem mo_15 (M : Mem) : fm_move_15 M (nI 241) 1 = some (nI 251, (rowI M 159 (va_cpy (M.1 154) (M.1 159) 0 241 10))) := by
  have e := mo_15_L (M := M) (kx := fun M7 => some (nI 241 + 10, M7)) 10 0 (by omega) FU (by rw [FU_eq]; omega)
  rw [cpy_0, rowI_same] at e
  exact e
theorem mi_15_L {M : Mem} {kx : Mem → Option (Int32 × Mem)} : ∀ (n k : Nat), k + n = 10 → ∀ F1, n < F1 → fm_move_15_L3 (nI 241) 0 kx F1 (nI k) (rowI M 154 (va_cpy (M.1 159) (M.1 154) 241 0 k)) = kx (rowI M 154 (va_cpy (M.1 159) (M.1 154) 241 0 10)) := by
  intro n
  induction n with
  | zero =>
    intro k hk F1 h1
    obtain ⟨F1, rfl⟩ : ∃ m, F1 = m + 1 := ⟨F1 - 1, by omega⟩
    have hk : k = 10 := by omega
    subst hk
    rw [fm_move_15_L3, if_pos (by decide)]
  | succ n ih =>
    intro k hk F1 h1
    obtain ⟨F1, rfl⟩ : ∃ m, F1 = m + 1 := ⟨F1 - 1, by omega⟩
    have tk := t_nI (show k < 2147483648 by omega)
    have xk := ix_nI (show k < 2147483648 by omega)
    obtain ⟨q1, q2⟩ := t_nn (a := 241) (b := k) (by omega)
    have hin : inb (nI k) 10 := b_in (by omega) (by omega)
    have hin2 : inb (nI 241 + nI k) 300 := b_in (by omega) (by omega)
    rw [fm_move_15_L3, if_neg (show ¬ (10 : Int32) ≤ nI k by rw [t_le, tk]; simp only [Int32.reduceToInt]; omega), jlet_e, if_pos rfl, gd_t hin2, gd_t hin, mlet_e, q2, xk, nI_1, rowI_wI, rowI_1, if_neg (show ¬ (159 : Nat) = 154 by omega)]
    have e := cpy_s (M.1 159) (M.1 154) 241 0 k
    skip
    rw [Nat.zero_add] at e
    skip
    rw [e]
    exact ih (k + 1) (by omega) F1 (by omega)
theorem mi_15 (M : Mem) : fm_move_15 M (nI 241) 0 = some (nI 251, (rowI M 154 (va_cpy (M.1 159) (M.1 154) 241 0 10))) := by
  have e := mi_15_L (M := M) (kx := fun M7 => some (nI 241 + 10, M7)) 10 0 (by omega) FU (by rw [FU_eq]; omega)
  rw [cpy_0, rowI_same] at e
  exact e
