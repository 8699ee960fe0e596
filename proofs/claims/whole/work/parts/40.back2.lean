def RS1w (C N : Mem) (s : Nat) : Prop :=
  (N.1 139 s = -1 ∧ C.1 (s + 2) 0 = -1 ∧ C.1 (s + 2) 1 = 0 ∧ C.1 (s + 2) 2 = -1) ∨
  (∃ t : Nat, t < 5 ∧ N.1 139 s = nI (100 + t) ∧ C.1 (s + 2) 0 = nI t ∧ C.1 (s + 2) 2 = -1 ∧ C.1 (s + 2) 1 = N.1 140 s ∧ bd (N.1 140 s) 0 40 ∧ ∀ i, i < 40 → C.2 (s + 10) i = N.2 141 (40 * s + i)) ∨
  (C.1 (s + 2) 0 = -1 ∧ C.1 (s + 2) 1 = 0 ∧ C.1 (s + 2) 2 = N.1 139 s ∧ 0 ≤ (N.1 139 s).toInt ∧ (N.1 139 s).toInt < 20)
theorem back_L : ∀ (n k : Nat), k + n = 8 → ∀ C N : Mem, (∀ s, k ≤ s → s < 8 → RS1w C N s) → (∀ s, s < k → RS1 C N s) → C.1 20 1 = N.1 156 0 → bd (N.1 156 0) 0 20 → ∀ F1 F2, n < F1 → n < F2 → ∃ C' N', fc_back_L27 F1 (nI k) C = some (1, C') ∧ fm_back_L21 F2 (nI k) N = some (1, N') ∧ RS C' N' ∧ (∀ q, (q < 2 ∨ 9 < q) → C'.1 q = C.1 q) ∧ C'.2 = C.2 ∧ (∀ q, q ≠ 139 → N'.1 q = N.1 q) ∧ N'.2 = N.2 := by
  intro n
  induction n with
  | zero =>
    intro k hk C N hw hd e0 b0 F1 F2 h1 h2
    obtain ⟨F1, rfl⟩ : ∃ m, F1 = m + 1 := ⟨F1 - 1, by omega⟩
    obtain ⟨F2, rfl⟩ : ∃ m, F2 = m + 1 := ⟨F2 - 1, by omega⟩
    have hk : k = 8 := by omega
    subst hk
    rw [fc_back_L27, fm_back_L21, if_pos (by decide), if_pos (by decide)]
    exact ⟨C, N, rfl, rfl, fun s hs => hd s hs, fun _ _ => rfl, rfl, fun _ _ => rfl, rfl⟩
  | succ n ih =>
    intro k hk C N hw hd e0 b0 F1 F2 h1 h2
    obtain ⟨F1, rfl⟩ : ∃ m, F1 = m + 1 := ⟨F1 - 1, by omega⟩
    obtain ⟨F2, rfl⟩ : ∃ m, F2 = m + 1 := ⟨F2 - 1, by omega⟩
    obtain ⟨l0, u0⟩ := id b0
    have tk := t_nI (show k < 2147483648 by omega)
    have xk := ix_nI (show k < 2147483648 by omega)
    have hin : inb (nI k) 8 := b_in (by omega) (by omega)
    have hle : ¬ (8 : Int32) ≤ nI k := by rw [t_le, tk]; simp only [Int32.reduceToInt]; omega
    rw [fc_back_L27, fm_back_L21, if_neg hle, if_neg hle]
    unfold fm_holdsJetty fShelf_takeJetty
    simp only [gd_t hin, xk, jlet_e, mlet_e, nI_1, Option.bind_some, ix_0]
    have keep : RS1 C N k → ∃ C' N', fc_back_L27 F1 (nI (k + 1)) C = some (1, C') ∧ fm_back_L21 F2 (nI (k + 1)) N = some (1, N') ∧ RS C' N' ∧ (∀ q, (q < 2 ∨ 9 < q) → C'.1 q = C.1 q) ∧ C'.2 = C.2 ∧ (∀ q, q ≠ 139 → N'.1 q = N.1 q) ∧ N'.2 = N.2 := fun z => ih (k + 1) (by omega) C N (fun s a b => hw s (by omega) b) (fun s hs => by
      by_cases e : s = k
      · rw [e]; exact z
      · exact hd s (by omega)) e0 b0 F1 F2 (by omega) (by omega)
    rcases hw k (by omega) (by omega) with w | ⟨t, w⟩ | w
    · rw [if_pos (show C.1 (k + 2) 2 < C.1 20 1 by rw [w.2.2.2, e0, t_lt]; simp only [Int32.reduceToInt]; omega), w.1, if_pos (show (-1 : Int32) < 0 by decide)]
      simp only [Option.bind_some, if_true]
      exact keep (Or.inl w)
    · have q := t_nI (show 100 + t < 2147483648 by have := w.1; omega)
      rw [if_pos (show C.1 (k + 2) 2 < C.1 20 1 by rw [w.2.2.2.1, e0, t_lt]; simp only [Int32.reduceToInt]; omega), w.2.1, if_neg (show ¬ nI (100 + t) < 0 by rw [t_lt, q]; simp only [Int32.reduceToInt]; omega), if_pos (show (100 : Int32) ≤ nI (100 + t) by rw [t_le, q]; simp only [Int32.reduceToInt]; omega)]
      simp only [Option.bind_some, if_true]
      exact keep (Or.inr (Or.inl ⟨t, w⟩))
    · obtain ⟨w1, w2, w3, w4, w5⟩ := w
      rw [w3, e0, if_neg (show ¬ N.1 139 k < 0 by rw [t_lt]; simp only [Int32.reduceToInt]; omega), if_neg (show ¬ (100 : Int32) ≤ N.1 139 k by rw [t_le]; simp only [Int32.reduceToInt]; omega)]
      simp only [Option.bind_some]
      rw [if_neg (show ¬ (1 : Int32) = 0 by decide)]
      by_cases g : N.1 139 k < N.1 156 0
      · rw [if_pos g, if_pos g]
        rw [t_lt] at g
        exact keep (Or.inr (Or.inr ⟨w1, w2, w3, w4, by rw [e0]; exact g⟩))
      · rw [if_neg g, if_neg g]
        obtain ⟨C', N', r1, r2, r3, r4, r5, r6, r7⟩ := ih (k + 1) (by omega) (wI (wI (wI C (k + 2) 0 (-1)) (k + 2) 1 0) (k + 2) 2 (-1)) (wI N 139 k (-1)) (fun s a b => by
          have z := hw s (by omega) b
          unfold RS1w at z ⊢
          rw [wI_row _ _ _ _ (show s + 2 ≠ k + 2 by omega), wI_row _ _ _ _ (show s + 2 ≠ k + 2 by omega), wI_row _ _ _ _ (show s + 2 ≠ k + 2 by omega), mem_fst (show (139 : Nat) ≠ 139 ∨ s ≠ k by omega), mem_fst (show (140 : Nat) ≠ 139 ∨ s ≠ k by omega)]
          exact z) (fun s hs => by
          by_cases e : s = k
          · subst e
            exact Or.inl ⟨wI_s, (mem_fst (by omega)).trans ((mem_fst (by omega)).trans wI_s), (mem_fst (by omega)).trans wI_s, wI_s⟩
          · have z := hd s (by omega)
            unfold RS1 at z ⊢
            rw [wI_row _ _ _ _ (show s + 2 ≠ k + 2 by omega), wI_row _ _ _ _ (show s + 2 ≠ k + 2 by omega), wI_row _ _ _ _ (show s + 2 ≠ k + 2 by omega), mem_fst (show (139 : Nat) ≠ 139 ∨ s ≠ k by omega), mem_fst (show (140 : Nat) ≠ 139 ∨ s ≠ k by omega), wI_row _ _ _ _ (show 20 ≠ k + 2 by omega), wI_row _ _ _ _ (show 20 ≠ k + 2 by omega), wI_row _ _ _ _ (show 20 ≠ k + 2 by omega)]
            exact z) (by rw [wI_row _ _ _ _ (show 20 ≠ k + 2 by omega), wI_row _ _ _ _ (show 20 ≠ k + 2 by omega), wI_row _ _ _ _ (show 20 ≠ k + 2 by omega), mem_fst (by omega)]; exact e0) (by rw [mem_fst (by omega)]; exact b0) F1 F2 (by omega) (by omega)
        exact ⟨C', N', r1, r2, r3, fun q hq => (r4 q hq).trans (by rw [wI_row _ _ _ _ (show q ≠ k + 2 by omega), wI_row _ _ _ _ (show q ≠ k + 2 by omega), wI_row _ _ _ _ (show q ≠ k + 2 by omega)]), r5, fun q hq => (r6 q hq).trans (wI_row _ _ _ _ hq), r7⟩
