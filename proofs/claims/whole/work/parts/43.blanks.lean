-- blanks
theorem wI_id {M : Mem} {k i : Nat} {v : Int32} (h : M.1 k i = v) : wI M k i v = M := by
  refine Prod.ext ?_ rfl
  funext a b
  rw [wI_1]
  split
  · rename_i z; rw [z.1, z.2, h]
  · rfl
theorem wI_wI {M : Mem} {k i : Nat} {v w : Int32} : wI (wI M k i v) k i w = wI M k i w := by
  refine Prod.ext ?_ rfl
  funext a b
  rw [wI_1, wI_1, wI_1]
  split <;> rfl
theorem CH.eq {C N : Mem} {Z : Nat} (h : CH C N Z) {i : Nat} (hi : i < Z) {x : Int32} (hx : bd x 0 127) : C.1 19 i = x ↔ N.1 147 i = x := by
  obtain ⟨-, -, -, h4⟩ := h
  obtain ⟨g1, g2⟩ := h4 i hi
  obtain ⟨x1, x2⟩ := hx
  rcases g2 with ⟨a, b⟩ | ⟨a, b⟩
  · rw [b]
  · constructor
    · intro q; rw [q] at b; omega
    · intro q; rw [q] at a; omega
theorem CH.up {C C' N N' : Mem} {Z : Nat} (h : CH C N Z) (h1 : C'.1 18 1 = C.1 18 1) (h2 : C'.1 19 = C.1 19) (h3 : N'.1 138 8 = N.1 138 8) (h4 : N'.1 147 = N.1 147) : CH C' N' Z := by
  unfold CH at h ⊢
  rw [h1, h2, h3, h4]
  exact h
theorem skip_L {N : Mem} {Z : Nat} : ∀ (n p : Nat), p + n = Z → ∀ C, CH C N Z → C.1 18 2 = nI p → ∀ F1, n < F1 → ∃ q, p ≤ q ∧ q ≤ Z ∧ (q = Z ∨ ¬ N.1 147 q = 32) ∧ fTape_skipBlanks_L0 F1 C = some (wI C 18 2 (nI q)) ∧ ∀ F2 b1 kx x3 x4, q - p < F2 → fm_read_L34 b1 kx F2 (nI p) x3 x4 N = fm_read_L34 b1 kx (F2 - (q - p)) (nI q) x3 x4 N := by
  intro n
  induction n with
  | zero =>
    intro p hp C hC hc F1 h1
    obtain ⟨F1, rfl⟩ : ∃ m, F1 = m + 1 := ⟨F1 - 1, by omega⟩
    have hz := hC.2.2.1
    have tp := t_nI (show p < 2147483648 by omega)
    have tZ := t_nI (show Z < 2147483648 by omega)
    refine ⟨p, by omega, by omega, Or.inl (by omega), ?_, fun F2 b1 kx x3 x4 _ => by rw [Nat.sub_self, Nat.sub_zero]⟩
    rw [fTape_skipBlanks_L0, if_pos (by rw [hC.1, hc, t_le, tp, tZ]; omega), wI_id hc]
  | succ n ih =>
    intro p hp C hC hc F1 h1
    obtain ⟨F1, rfl⟩ : ∃ m, F1 = m + 1 := ⟨F1 - 1, by omega⟩
    have hz := hC.2.2.1
    have tp := t_nI (show p < 2147483648 by omega)
    have xp := ix_nI (show p < 2147483648 by omega)
    have tZ := t_nI (show Z < 2147483648 by omega)
    have hin : inb (nI p) 160 := b_in (by omega) (by omega)
    have he := hC.eq (i := p) (by omega) (x := 32) ⟨by decide, by decide⟩
    rw [fTape_skipBlanks_L0, if_neg (by rw [hC.1, hc, t_le, tp, tZ]; omega), hc, gd_t hin, xp]
    by_cases q : N.1 147 p = 32
    · rw [if_pos (he.mpr q), mlet_e, nI_1]
      obtain ⟨r, r1, r2, r3, r4, r5⟩ := ih (p + 1) (by omega) (wI C 18 2 (nI (p + 1))) (hC.up (mem_fst (by omega)) (wI_row _ _ _ _ (by omega)) rfl rfl) wI_s F1 (by omega)
      refine ⟨r, by omega, r2, r3, by rw [r4, wI_wI], fun F2 b1 kx x3 x4 hF => ?_⟩
      obtain ⟨F2, rfl⟩ : ∃ m, F2 = m + 1 := ⟨F2 - 1, by omega⟩
      rw [fm_read_L34, jlet_e, if_neg (show ¬ N.1 138 8 ≤ nI p by rw [hC.2.1, t_le, tp, tZ]; omega), gd_t hin, xp, if_pos q, nI_1, r5 F2 b1 kx x3 x4 (by omega), show F2 + 1 - (r - p) = F2 - (r - (p + 1)) by omega]
    · rw [if_neg (fun z => q (he.mp z))]
      exact ⟨p, by omega, by omega, Or.inr q, by rw [wI_id hc], fun F2 b1 kx x3 x4 _ => by rw [Nat.sub_self, Nat.sub_zero]⟩
theorem skip_e (M : Mem) : fTape_skipBlanks M = fTape_skipBlanks_L0 (FU + 1) M := rfl
