theorem jbk (M : Mem) (k : Nat) (hk : k < 20) (hB : isB (M.1 (k + 22) 4)) : ∃ M', fJetty_become M k k = some M' ∧ (∀ q, q ≠ k + 71 → M'.1 q = M.1 q) ∧ M'.2 = M.2 ∧ ∀ f, f < 5 → M'.1 (k + 71) f = M.1 (k + 22) f := by
  unfold fJetty_become fJetty_build_2
  simp only [mlet_e, Option.bind_some]
  have e : (wI (wI (wI (wI (wI M (k + 71) 0 (M.1 (k + 22) 0)) (k + 71) 1 (M.1 (k + 22) 1)) (k + 71) 2 (M.1 (k + 22) 2)) (k + 71) 3 (M.1 (k + 22) 3)) (k + 71) 4 0).1 (k + 22) 4 = M.1 (k + 22) 4 := by rw [wI_row _ _ _ _ (by omega), wI_row _ _ _ _ (by omega), wI_row _ _ _ _ (by omega), wI_row _ _ _ _ (by omega), wI_row _ _ _ _ (by omega)]
  rw [e, gd_t hB]
  refine ⟨_, rfl, fun q hq => by rw [wI_row _ _ _ _ hq, wI_row _ _ _ _ hq, wI_row _ _ _ _ hq, wI_row _ _ _ _ hq, wI_row _ _ _ _ hq, wI_row _ _ _ _ hq], rfl, fun f hf => ?_⟩
  rcases (show f = 0 ∨ f = 1 ∨ f = 2 ∨ f = 3 ∨ f = 4 by omega) with rfl | rfl | rfl | rfl | rfl
  · rw [mem_fst (by omega), mem_fst (by omega), mem_fst (by omega), mem_fst (by omega), mem_fst (by omega), wI_s]
  · rw [mem_fst (by omega), mem_fst (by omega), mem_fst (by omega), mem_fst (by omega), wI_s]
  · rw [mem_fst (by omega), mem_fst (by omega), mem_fst (by omega), wI_s]
  · rw [mem_fst (by omega), mem_fst (by omega), wI_s]
  · rw [wI_s]
theorem jb_L {m : Nat} (hm : m ≤ 20) {kx : Mem → Option Mem} : ∀ (n k : Nat), k + n = m → ∀ M : Mem, M.1 69 1 = nI m → (∀ j, j < m → isB (M.1 (j + 22) 4)) → ∀ F1, n < F1 → ∃ M', fLake_becomeCounted_L10 kx F1 (nI k) M = kx M' ∧ (∀ q, (q < 71 + k ∨ 71 + m ≤ q) → M'.1 q = M.1 q) ∧ M'.2 = M.2 ∧ ∀ j, k ≤ j → j < m → ∀ f, f < 5 → M'.1 (j + 71) f = M.1 (j + 22) f := by
  have tm := t_nI (show m < 2147483648 by omega)
  intro n
  induction n with
  | zero =>
    intro k hk M hc hB F1 h1
    obtain ⟨F1, rfl⟩ : ∃ m, F1 = m + 1 := ⟨F1 - 1, by omega⟩
    have tk := t_nI (show k < 2147483648 by omega)
    rw [fLake_becomeCounted_L10, if_pos (by rw [hc, t_le, tk, tm]; omega)]
    exact ⟨M, rfl, fun _ _ => rfl, rfl, fun j x y => by omega⟩
  | succ n ih =>
    intro k hk M hc hB F1 h1
    obtain ⟨F1, rfl⟩ : ∃ m, F1 = m + 1 := ⟨F1 - 1, by omega⟩
    have tk := t_nI (show k < 2147483648 by omega)
    have xk := ix_nI (show k < 2147483648 by omega)
    have hin : inb (nI k) 20 := b_in (by omega) (by omega)
    obtain ⟨M1, e1, e2, e3, e4⟩ := jbk M k (by omega) (hB k (by omega))
    rw [fLake_becomeCounted_L10, if_neg (by rw [hc, t_le, tk, tm]; omega), gd_t hin, gd_t hin, xk, e1]
    simp only [Option.bind_some, nI_1]
    obtain ⟨M', r1, r2, r3, r4⟩ := ih (k + 1) (by omega) M1 (by rw [e2 69 (by omega)]; exact hc) (fun j hj => by rw [e2 _ (by omega)]; exact hB j hj) F1 (by omega)
    refine ⟨M', r1, fun q hq => (r2 q (by omega)).trans (e2 q (by omega)), r3.trans e3, fun j x y f hf => ?_⟩
    by_cases e : j = k
    · rw [e, r2 (k + 71) (by omega)]
      exact e4 f hf
    · rw [r4 j (by omega) y f hf, e2 _ (by omega)]
theorem lbk (M : Mem) (k : Nat) (hk : k < 6) : ∃ M', fLaw_become M k k = some M' ∧ (∀ q, q ≠ k + 99 → M'.1 q = M.1 q) ∧ M'.2 = M.2 ∧ ∀ f, f < 9 → M'.1 (k + 99) f = M.1 (k + 50) f := by
  unfold fLaw_become
  rw [gd_t (by decide), mlet_e]
  refine ⟨_, rfl, fun q hq => by unfold cpI; rw [rowI_1, if_neg hq], rfl, fun f hf => ?_⟩
  unfold cpI
  rw [rowI_1, if_pos rfl]
  unfold va_cpy
  rw [if_pos (show ix 0 ≤ f ∧ f < ix 0 + ix 9 from ⟨by rw [ix_0]; omega, by rw [ix_0, ix_9]; omega⟩), ix_0]
  exact congrArg (M.1 (k + 50)) (by omega)
theorem ab_k (M : Mem) (k : Nat) (hk : k < 6) : ∃ M', fLeaper_become M k k = some M' ∧ (∀ q, q ≠ k + 107 → M'.1 q = M.1 q) ∧ M'.2 = M.2 ∧ ∀ f, f < 3 → M'.1 (k + 107) f = M.1 (k + 58) f := by
  unfold fLeaper_become
  simp only [mlet_e]
  refine ⟨_, rfl, fun q hq => by rw [wI_row _ _ _ _ hq, wI_row _ _ _ _ hq, wI_row _ _ _ _ hq], rfl, fun f hf => ?_⟩
  rcases (show f = 0 ∨ f = 1 ∨ f = 2 by omega) with rfl | rfl | rfl
  · rw [mem_fst (by omega), mem_fst (by omega), wI_s]
  · rw [mem_fst (by omega), wI_s, wI_row _ _ _ _ (by omega)]
  · rw [wI_s, wI_row _ _ _ _ (by omega), wI_row _ _ _ _ (by omega)]
theorem lb_L {m : Nat} (hm : m ≤ 6) {kx : Mem → Option Mem} : ∀ (n k : Nat), k + n = m → ∀ M : Mem, M.1 69 3 = nI m → ∀ F1, n < F1 → ∃ M', fLake_becomeCounted_L49 kx F1 (nI k) M = kx M' ∧ (∀ q, (q < 99 + k ∨ 99 + m ≤ q) → M'.1 q = M.1 q) ∧ M'.2 = M.2 ∧ ∀ j, k ≤ j → j < m → ∀ f, f < 9 → M'.1 (j + 99) f = M.1 (j + 50) f := by
  have tm := t_nI (show m < 2147483648 by omega)
  intro n
  induction n with
  | zero =>
    intro k hk M hc F1 h1
    obtain ⟨F1, rfl⟩ : ∃ m, F1 = m + 1 := ⟨F1 - 1, by omega⟩
    have tk := t_nI (show k < 2147483648 by omega)
    rw [fLake_becomeCounted_L49, if_pos (by rw [hc, t_le, tk, tm]; omega)]
    exact ⟨M, rfl, fun _ _ => rfl, rfl, fun j x y => by omega⟩
  | succ n ih =>
    intro k hk M hc F1 h1
    obtain ⟨F1, rfl⟩ : ∃ m, F1 = m + 1 := ⟨F1 - 1, by omega⟩
    have tk := t_nI (show k < 2147483648 by omega)
    have xk := ix_nI (show k < 2147483648 by omega)
    have hin : inb (nI k) 6 := b_in (by omega) (by omega)
    obtain ⟨M1, e1, e2, e3, e4⟩ := lbk M k (by omega)
    rw [fLake_becomeCounted_L49, if_neg (by rw [hc, t_le, tk, tm]; omega), gd_t hin, gd_t hin, xk, e1]
    simp only [Option.bind_some, nI_1]
    obtain ⟨M', r1, r2, r3, r4⟩ := ih (k + 1) (by omega) M1 (by rw [e2 69 (by omega)]; exact hc) F1 (by omega)
    refine ⟨M', r1, fun q hq => (r2 q (by omega)).trans (e2 q (by omega)), r3.trans e3, fun j x y f hf => ?_⟩
    by_cases e : j = k
    · rw [e, r2 (k + 99) (by omega)]
      exact e4 f hf
    · rw [r4 j (by omega) y f hf, e2 _ (by omega)]
theorem ab_L {m : Nat} (hm : m ≤ 6) {kx : Mem → Option Mem} : ∀ (n k : Nat), k + n = m → ∀ M : Mem, M.1 69 7 = nI m → ∀ F1, n < F1 → ∃ M', fLake_becomeCounted_L88 kx F1 (nI k) M = kx M' ∧ (∀ q, (q < 107 + k ∨ 107 + m ≤ q) → M'.1 q = M.1 q) ∧ M'.2 = M.2 ∧ ∀ j, k ≤ j → j < m → ∀ f, f < 3 → M'.1 (j + 107) f = M.1 (j + 58) f := by
  have tm := t_nI (show m < 2147483648 by omega)
  intro n
  induction n with
  | zero =>
    intro k hk M hc F1 h1
    obtain ⟨F1, rfl⟩ : ∃ m, F1 = m + 1 := ⟨F1 - 1, by omega⟩
    have tk := t_nI (show k < 2147483648 by omega)
    rw [fLake_becomeCounted_L88, if_pos (by rw [hc, t_le, tk, tm]; omega)]
    exact ⟨M, rfl, fun _ _ => rfl, rfl, fun j x y => by omega⟩
  | succ n ih =>
    intro k hk M hc F1 h1
    obtain ⟨F1, rfl⟩ : ∃ m, F1 = m + 1 := ⟨F1 - 1, by omega⟩
    have tk := t_nI (show k < 2147483648 by omega)
    have xk := ix_nI (show k < 2147483648 by omega)
    have hin : inb (nI k) 6 := b_in (by omega) (by omega)
    obtain ⟨M1, e1, e2, e3, e4⟩ := ab_k M k (by omega)
    rw [fLake_becomeCounted_L88, if_neg (by rw [hc, t_le, tk, tm]; omega), gd_t hin, gd_t hin, xk, e1]
    simp only [Option.bind_some, nI_1]
    obtain ⟨M', r1, r2, r3, r4⟩ := ih (k + 1) (by omega) M1 (by rw [e2 69 (by omega)]; exact hc) F1 (by omega)
    refine ⟨M', r1, fun q hq => (r2 q (by omega)).trans (e2 q (by omega)), r3.trans e3, fun j x y f hf => ?_⟩
    by_cases e : j = k
    · rw [e, r2 (k + 107) (by omega)]
      exact e4 f hf
    · rw [r4 j (by omega) y f hf, e2 _ (by omega)]
theorem jbk_2 (M : Mem) (k : Nat) (hk : k < 20) (hB : isB (M.1 (k + 71) 4)) : ∃ M', fJetty_become_2 M k k = some M' ∧ (∀ q, q ≠ k + 22 → M'.1 q = M.1 q) ∧ M'.2 = M.2 ∧ ∀ f, f < 5 → M'.1 (k + 22) f = M.1 (k + 71) f := by
  unfold fJetty_become_2 fJetty_build
  simp only [mlet_e, Option.bind_some]
  have e : (wI (wI (wI (wI (wI M (k + 22) 0 (M.1 (k + 71) 0)) (k + 22) 1 (M.1 (k + 71) 1)) (k + 22) 2 (M.1 (k + 71) 2)) (k + 22) 3 (M.1 (k + 71) 3)) (k + 22) 4 0).1 (k + 71) 4 = M.1 (k + 71) 4 := by rw [wI_row _ _ _ _ (by omega), wI_row _ _ _ _ (by omega), wI_row _ _ _ _ (by omega), wI_row _ _ _ _ (by omega), wI_row _ _ _ _ (by omega)]
  rw [e, gd_t hB]
  refine ⟨_, rfl, fun q hq => by rw [wI_row _ _ _ _ hq, wI_row _ _ _ _ hq, wI_row _ _ _ _ hq, wI_row _ _ _ _ hq, wI_row _ _ _ _ hq, wI_row _ _ _ _ hq], rfl, fun f hf => ?_⟩
  rcases (show f = 0 ∨ f = 1 ∨ f = 2 ∨ f = 3 ∨ f = 4 by omega) with rfl | rfl | rfl | rfl | rfl
  · rw [mem_fst (by omega), mem_fst (by omega), mem_fst (by omega), mem_fst (by omega), mem_fst (by omega), wI_s]
  · rw [mem_fst (by omega), mem_fst (by omega), mem_fst (by omega), mem_fst (by omega), wI_s]
  · rw [mem_fst (by omega), mem_fst (by omega), mem_fst (by omega), wI_s]
  · rw [mem_fst (by omega), mem_fst (by omega), wI_s]
  · rw [wI_s]
theorem jb_L_2 {m : Nat} (hm : m ≤ 20) {kx : Mem → Option Mem} : ∀ (n k : Nat), k + n = m → ∀ M : Mem, M.1 20 1 = nI m → (∀ j, j < m → isB (M.1 (j + 71) 4)) → ∀ F1, n < F1 → ∃ M', fLake_becomeCounted_2_L10 kx F1 (nI k) M = kx M' ∧ (∀ q, (q < 22 + k ∨ 22 + m ≤ q) → M'.1 q = M.1 q) ∧ M'.2 = M.2 ∧ ∀ j, k ≤ j → j < m → ∀ f, f < 5 → M'.1 (j + 22) f = M.1 (j + 71) f := by
  have tm := t_nI (show m < 2147483648 by omega)
  intro n
  induction n with
  | zero =>
    intro k hk M hc hB F1 h1
    obtain ⟨F1, rfl⟩ : ∃ m, F1 = m + 1 := ⟨F1 - 1, by omega⟩
    have tk := t_nI (show k < 2147483648 by omega)
    rw [fLake_becomeCounted_2_L10, if_pos (by rw [hc, t_le, tk, tm]; omega)]
    exact ⟨M, rfl, fun _ _ => rfl, rfl, fun j x y => by omega⟩
  | succ n ih =>
    intro k hk M hc hB F1 h1
    obtain ⟨F1, rfl⟩ : ∃ m, F1 = m + 1 := ⟨F1 - 1, by omega⟩
    have tk := t_nI (show k < 2147483648 by omega)
    have xk := ix_nI (show k < 2147483648 by omega)
    have hin : inb (nI k) 20 := b_in (by omega) (by omega)
    obtain ⟨M1, e1, e2, e3, e4⟩ := jbk_2 M k (by omega) (hB k (by omega))
    rw [fLake_becomeCounted_2_L10, if_neg (by rw [hc, t_le, tk, tm]; omega), gd_t hin, gd_t hin, xk, e1]
    simp only [Option.bind_some, nI_1]
    obtain ⟨M', r1, r2, r3, r4⟩ := ih (k + 1) (by omega) M1 (by rw [e2 20 (by omega)]; exact hc) (fun j hj => by rw [e2 _ (by omega)]; exact hB j hj) F1 (by omega)
    refine ⟨M', r1, fun q hq => (r2 q (by omega)).trans (e2 q (by omega)), r3.trans e3, fun j x y f hf => ?_⟩
    by_cases e : j = k
    · rw [e, r2 (k + 22) (by omega)]
      exact e4 f hf
    · rw [r4 j (by omega) y f hf, e2 _ (by omega)]
theorem lbk_2 (M : Mem) (k : Nat) (hk : k < 6) : ∃ M', fLaw_become_2 M k k = some M' ∧ (∀ q, q ≠ k + 50 → M'.1 q = M.1 q) ∧ M'.2 = M.2 ∧ ∀ f, f < 9 → M'.1 (k + 50) f = M.1 (k + 99) f := by
  unfold fLaw_become_2
  rw [gd_t (by decide), mlet_e]
  refine ⟨_, rfl, fun q hq => by unfold cpI; rw [rowI_1, if_neg hq], rfl, fun f hf => ?_⟩
  unfold cpI
  rw [rowI_1, if_pos rfl]
  unfold va_cpy
  rw [if_pos (show ix 0 ≤ f ∧ f < ix 0 + ix 9 from ⟨by rw [ix_0]; omega, by rw [ix_0, ix_9]; omega⟩), ix_0]
  exact congrArg (M.1 (k + 99)) (by omega)
theorem ab_k_2 (M : Mem) (k : Nat) (hk : k < 6) : ∃ M', fLeaper_become_2 M k k = some M' ∧ (∀ q, q ≠ k + 58 → M'.1 q = M.1 q) ∧ M'.2 = M.2 ∧ ∀ f, f < 3 → M'.1 (k + 58) f = M.1 (k + 107) f := by
  unfold fLeaper_become_2
  simp only [mlet_e]
  refine ⟨_, rfl, fun q hq => by rw [wI_row _ _ _ _ hq, wI_row _ _ _ _ hq, wI_row _ _ _ _ hq], rfl, fun f hf => ?_⟩
  rcases (show f = 0 ∨ f = 1 ∨ f = 2 by omega) with rfl | rfl | rfl
  · rw [mem_fst (by omega), mem_fst (by omega), wI_s]
  · rw [mem_fst (by omega), wI_s, wI_row _ _ _ _ (by omega)]
  · rw [wI_s, wI_row _ _ _ _ (by omega), wI_row _ _ _ _ (by omega)]
theorem lb_L_2 {m : Nat} (hm : m ≤ 6) {kx : Mem → Option Mem} : ∀ (n k : Nat), k + n = m → ∀ M : Mem, M.1 20 3 = nI m → ∀ F1, n < F1 → ∃ M', fLake_becomeCounted_2_L49 kx F1 (nI k) M = kx M' ∧ (∀ q, (q < 50 + k ∨ 50 + m ≤ q) → M'.1 q = M.1 q) ∧ M'.2 = M.2 ∧ ∀ j, k ≤ j → j < m → ∀ f, f < 9 → M'.1 (j + 50) f = M.1 (j + 99) f := by
  have tm := t_nI (show m < 2147483648 by omega)
  intro n
  induction n with
  | zero =>
    intro k hk M hc F1 h1
    obtain ⟨F1, rfl⟩ : ∃ m, F1 = m + 1 := ⟨F1 - 1, by omega⟩
    have tk := t_nI (show k < 2147483648 by omega)
    rw [fLake_becomeCounted_2_L49, if_pos (by rw [hc, t_le, tk, tm]; omega)]
    exact ⟨M, rfl, fun _ _ => rfl, rfl, fun j x y => by omega⟩
  | succ n ih =>
    intro k hk M hc F1 h1
    obtain ⟨F1, rfl⟩ : ∃ m, F1 = m + 1 := ⟨F1 - 1, by omega⟩
    have tk := t_nI (show k < 2147483648 by omega)
    have xk := ix_nI (show k < 2147483648 by omega)
    have hin : inb (nI k) 6 := b_in (by omega) (by omega)
    obtain ⟨M1, e1, e2, e3, e4⟩ := lbk_2 M k (by omega)
    rw [fLake_becomeCounted_2_L49, if_neg (by rw [hc, t_le, tk, tm]; omega), gd_t hin, gd_t hin, xk, e1]
    simp only [Option.bind_some, nI_1]
    obtain ⟨M', r1, r2, r3, r4⟩ := ih (k + 1) (by omega) M1 (by rw [e2 20 (by omega)]; exact hc) F1 (by omega)
    refine ⟨M', r1, fun q hq => (r2 q (by omega)).trans (e2 q (by omega)), r3.trans e3, fun j x y f hf => ?_⟩
    by_cases e : j = k
    · rw [e, r2 (k + 50) (by omega)]
      exact e4 f hf
    · rw [r4 j (by omega) y f hf, e2 _ (by omega)]
theorem ab_L_2 {m : Nat} (hm : m ≤ 6) {kx : Mem → Option Mem} : ∀ (n k : Nat), k + n = m → ∀ M : Mem, M.1 20 7 = nI m → ∀ F1, n < F1 → ∃ M', fLake_becomeCounted_2_L88 kx F1 (nI k) M = kx M' ∧ (∀ q, (q < 58 + k ∨ 58 + m ≤ q) → M'.1 q = M.1 q) ∧ M'.2 = M.2 ∧ ∀ j, k ≤ j → j < m → ∀ f, f < 3 → M'.1 (j + 58) f = M.1 (j + 107) f := by
  have tm := t_nI (show m < 2147483648 by omega)
  intro n
  induction n with
  | zero =>
    intro k hk M hc F1 h1
    obtain ⟨F1, rfl⟩ : ∃ m, F1 = m + 1 := ⟨F1 - 1, by omega⟩
    have tk := t_nI (show k < 2147483648 by omega)
    rw [fLake_becomeCounted_2_L88, if_pos (by rw [hc, t_le, tk, tm]; omega)]
    exact ⟨M, rfl, fun _ _ => rfl, rfl, fun j x y => by omega⟩
  | succ n ih =>
    intro k hk M hc F1 h1
    obtain ⟨F1, rfl⟩ : ∃ m, F1 = m + 1 := ⟨F1 - 1, by omega⟩
    have tk := t_nI (show k < 2147483648 by omega)
    have xk := ix_nI (show k < 2147483648 by omega)
    have hin : inb (nI k) 6 := b_in (by omega) (by omega)
    obtain ⟨M1, e1, e2, e3, e4⟩ := ab_k_2 M k (by omega)
    rw [fLake_becomeCounted_2_L88, if_neg (by rw [hc, t_le, tk, tm]; omega), gd_t hin, gd_t hin, xk, e1]
    simp only [Option.bind_some, nI_1]
    obtain ⟨M', r1, r2, r3, r4⟩ := ih (k + 1) (by omega) M1 (by rw [e2 20 (by omega)]; exact hc) F1 (by omega)
    refine ⟨M', r1, fun q hq => (r2 q (by omega)).trans (e2 q (by omega)), r3.trans e3, fun j x y f hf => ?_⟩
    by_cases e : j = k
    · rw [e, r2 (k + 58) (by omega)]
      exact e4 f hf
    · rw [r4 j (by omega) y f hf, e2 _ (by omega)]
