-- a law's text, read
def k0 : Mem → Option (Int32 × Mem) := fun M => some (M.1 18 2, M)
def kend : Int32 → Mem → Option (Int32 × Mem) := fun w M => if w = (2 : Int32) then some ((-1), M) else some (M.1 138 8, M)
/-- what the reading leaves as it was -/
def FRM (L : Nat) (C N C' N' : Mem) : Prop := (∀ q, q ≠ L + 50 → q ≠ 18 → C'.1 q = C.1 q) ∧ C'.2 = C.2 ∧ C'.1 18 1 = C.1 18 1 ∧ (∀ q, q ≠ 148 → N'.1 q = N.1 q) ∧ N'.2 = N.2 ∧ (∀ i, i < 9 * L → N'.1 148 i = N.1 148 i) ∧ (∀ i, i < 9 → C'.1 (L + 50) i = N'.1 148 (9 * L + i)) ∧ lawok (C'.1 (L + 50))
theorem FRM.at {L : Nat} {C N : Mem} (h1 : ∀ i, i < 9 → C.1 (L + 50) i = N.1 148 (9 * L + i)) (h2 : lawok (C.1 (L + 50))) (v : Int32) : FRM L C N (wI C 18 2 v) N := by
  refine ⟨fun q _ b => wI_row _ _ _ _ b, rfl, mem_fst (by omega), fun _ _ => rfl, rfl, fun _ _ => rfl, ?_, ?_⟩
  · rw [wI_row _ _ _ _ (by omega)]; exact h1
  · rw [wI_row _ _ _ _ (by omega)]; exact h2
theorem FRM.tr {L : Nat} {C N C1 N1 C2 N2 : Mem} (h : FRM L C N C1 N1) (g : FRM L C1 N1 C2 N2) : FRM L C N C2 N2 := by
  obtain ⟨a1, a2, a3, a4, a5, a6, -, -⟩ := h
  obtain ⟨b1, b2, b3, b4, b5, b6, b7, b8⟩ := g
  exact ⟨fun q x y => (b1 q x y).trans (a1 q x y), b2.trans a2, b3.trans a3, fun q x => (b4 q x).trans (a4 q x), b5.trans a5, fun i x => (b6 i x).trans (a6 i x), b7, b8⟩
theorem FRM.wr {L j : Nat} {C N : Mem} {p v : Int32} (hj : j < 9) (h1 : ∀ i, i < 9 → C.1 (L + 50) i = N.1 148 (9 * L + i)) (h2 : lawok (C.1 (L + 50))) (hv : bd v (sv1.getD j 0).toInt (sv2.getD j 0).toInt) : FRM L C N (wI (wI C 18 2 p) (L + 50) j v) (wI N 148 (9 * L + j) v) := by
  refine ⟨fun q a b => (wI_row _ _ _ _ a).trans (wI_row _ _ _ _ b), rfl, (mem_fst (by omega)).trans (mem_fst (by omega)), fun q a => wI_row _ _ _ _ a, rfl, fun i hi => mem_fst (by omega), fun i hi => ?_, lawok_up h2 hj hv (fun i => ?_)⟩
  · by_cases z : i = j
    · rw [z, wI_s, wI_s]
    · rw [mem_fst (by omega), mem_fst (by omega), mem_fst (by omega)]; exact h1 i hi
  · by_cases z : i = j
    · rw [z, wI_s, if_pos rfl]
    · rw [mem_fst (by omega), mem_fst (by omega), if_neg z]
theorem sv1_nn : ∀ j, j < 9 → 0 ≤ (sv1.getD j 0).toInt := by decide
theorem read_E {Z L : Nat} (hL : L < 6) : ∀ (n p k : Nat) (C N : Mem) (x4 : Int32), Z < p + n → p ≤ Z → 5 * k ≤ p → CH C N Z → C.1 18 2 = nI p → (∀ i, i < 9 → C.1 (L + 50) i = N.1 148 (9 * L + i)) → lawok (C.1 (L + 50)) → ∀ F1 F2, n < F1 → Z - p < F2 → ∃ r C' N', (r = -1 ∨ ∃ q, q ≤ 160 ∧ r = nI q) ∧ fTape_readInto_L11 L k0 k0 k0 F1 (nI k) C = some (r, C') ∧ fm_read_L34 (nI (9 * L)) kend F2 (nI p) 0 x4 N = some (r, N') ∧ FRM L C N C' N' := by
  intro n
  induction n with
  | zero => intro p k C N x4 h1 h2; omega
  | succ n ih =>
    intro p k C N x4 h1 h2 h3 hC hc hR hlw F1 F2 f1 f2
    obtain ⟨F1, rfl⟩ : ∃ m, F1 = m + 1 := ⟨F1 - 1, by omega⟩
    have hz := hC.2.2.1
    have h8 := hC.2.1
    obtain ⟨q, q1, q2, q3, q4, q5⟩ := c_skip hC h2 hc
    have hU : ∀ v, CH (wI C 18 2 v) N Z := fun v => hC.up (mem_fst (by omega)) (wI_row _ _ _ _ (by omega)) rfl rfl
    obtain ⟨e, w, e1, e2, e3, e4, e5, e6⟩ := c_word (hU (nI q)) q2 wI_s
    obtain ⟨G, hG⟩ : ∃ m, F2 - (q - p) = m + 1 := ⟨F2 - (q - p) - 1, by omega⟩
    have c0 : ¬ (160 : Int32) ≤ nI k := by
      rw [t_le, t_nI (by omega)]
      simp only [Int32.reduceToInt]
      omega
    rw [q5 F2 _ _ _ _ (by omega), hG, fTape_readInto_L11, if_neg c0, q4, Option.bind_some]
    have stop : k0 (wI C 18 2 (nI q)) = some (nI q, wI C 18 2 (nI q)) := by unfold k0; rw [wI_s]
    rcases e6 with ⟨w1, e6⟩ | ⟨j, j1, w1, j3, e6⟩
    · rw [e6, Option.bind_some, if_pos rfl]
      refine ⟨nI q, _, N, Or.inr ⟨q, by omega, rfl⟩, stop, ?_, FRM.at hR hlw _⟩
      by_cases z : q = Z
      · rw [z, m_end hz h8]
        unfold kend
        rw [if_neg (by decide), h8]
      · rw [m_0 hz h8 (by omega) (q3.resolve_left z) e2 e1 e3 e4 e5, w1, if_neg (by decide)]
    have xj := ix_nI (show j < 2147483648 by omega)
    have tj := t_nI (show j < 2147483648 by omega)
    have ij : inb (nI j) 9 := b_in (by omega) (by omega)
    have qz : q < Z := by omega
    rw [m_0 hz h8 qz (q3.resolve_left (by omega)) e2 e1 e3 e4 e5, w1, if_pos (by rw [t_le, tj]; simp only [Int32.reduceToInt]; omega), e6, Option.bind_some, wI_wI]
    obtain ⟨s, s1, s2, s3, s4, s5⟩ := c_skip (hU (nI e)) e2 wI_s
    rw [wI_wI] at s4
    obtain ⟨t, t1, t2, t3, t4, t5⟩ := c_num (hU (nI s)) s2 wI_s
    obtain ⟨H, hH⟩ : ∃ m, G - (s - e) = m + 1 := ⟨G - (s - e) - 1, by omega⟩
    dsimp only
    rw [if_neg (m1_nI j (by omega)), s4, Option.bind_some, ilet_e, wI_s, t5, s5 G _ _ _ _ (by omega), hH]
    simp only [gd_t ij, xj]
    have bi : nI (9 * L) + nI j = nI (9 * L + j) := by
      rw [t_eq, t_add (by rw [t_nI (by omega), t_nI (by omega)]; omega) (by rw [t_nI (by omega), t_nI (by omega)]; omega), t_nI (by omega), t_nI (by omega), t_nI (by omega)]
      omega
    have ib : inb (nI (9 * L) + nI j) 54 := by
      rw [bi]
      exact b_in (by rw [t_nI (by omega)]; omega) (by rw [t_nI (by omega)]; omega)
    have wn : ∀ M : Mem, fc_isWithinT M (-1) (sv1.getD j 0) (sv2.getD j 0) = 0 := fun M => by
      rw [within_0]
      have := sv1_nn j j1
      rw [li_m1]
      omega
    have fin : ∀ r : Option (Int32 × Mem), r = some (nI s, N) → ∃ r' C' N', (r' = -1 ∨ ∃ q, q ≤ 160 ∧ r' = nI q) ∧ (some (nI s, wI C 18 2 (nI s)) : Option (Int32 × Mem)) = some (r', C') ∧ r = some (r', N') ∧ FRM L C N C' N' := fun r hr => ⟨nI s, _, N, Or.inr ⟨s, by omega, rfl⟩, rfl, hr, FRM.at hR hlw _⟩
    by_cases z : s = Z
    · rw [if_pos (show t = s by omega), Option.bind_some]
      dsimp only
      rw [if_pos (wn _)]
      refine fin _ ?_
      rw [z, m_end hz h8]
      unfold kend
      rw [if_neg (by decide), h8]
    have sz : s < Z := by omega
    rw [m_1 hz h8 sz (s3.resolve_left z) t2 t1 t3 t4 ib]
    by_cases a1 : t = s
    · rw [if_pos a1, if_pos a1, Option.bind_some]
      dsimp only
      rw [if_pos (wn _)]
      exact fin _ rfl
    rw [if_neg a1, if_neg a1]
    by_cases a2 : s + 2 < t
    · rw [if_pos a2, if_pos a2, Option.bind_some]
      dsimp only
      rw [if_pos (wn _)]
      exact fin _ rfl
    rw [if_neg a2, if_neg a2, Option.bind_some]
    have nb := numb_b (N := N) (s := s) (e := t) (by omega) (by omega) t4
    generalize num N s (t - s) s 0 = v at nb ⊢
    dsimp only
    obtain ⟨m1, m2⟩ := mayBe_e (C := wI (wI C 18 2 (nI s)) 18 2 (nI t)) (N := N) j1 nb
    by_cases a3 : fm_mayBeT N (nI j) v = 0
    · rw [if_pos (m1.mpr a3), if_pos a3]
      rw [wI_wI]
      exact ⟨nI s, _, N, Or.inr ⟨s, by omega, rfl⟩, rfl, rfl, FRM.at hR hlw _⟩
    have vb := m2 (fun y => a3 (m1.mp y))
    rw [if_neg (fun y => a3 (m1.mp y)), if_neg a3, mlet_e, wI_wI, bi, ix_nI (show 9 * L + j < 2147483648 by omega)]
    have fr := FRM.wr (L := L) (p := nI t) j1 hR hlw vb
    generalize hC4 : wI (wI C 18 2 (nI t)) (L + 50) j v = C4 at fr ⊢
    generalize hN4 : wI N 148 (9 * L + j) v = N4 at fr ⊢
    have g4 : CH C4 N4 Z := by
      refine (hU (nI t)).up ?_ ?_ ?_ ?_
      · rw [← hC4]; exact mem_fst (by omega)
      · rw [← hC4]; exact wI_row _ _ _ _ (by omega)
      · rw [← hN4]; exact mem_fst (by omega)
      · rw [← hN4]; exact wI_row _ _ _ _ (by omega)
    have p4 : C4.1 18 2 = nI t := by rw [← hC4, mem_fst (by omega), wI_s]
    obtain ⟨b, b1, b2, b3, b4, b5⟩ := c_skip g4 t2 p4
    obtain ⟨K, hK⟩ : ∃ m, H - (b - t) = m + 1 := ⟨H - (b - t) - 1, by omega⟩
    rw [b4, Option.bind_some, b5 H _ _ _ _ (by omega), hK, wI_s, mem_fst (show 18 ≠ 18 ∨ 1 ≠ 2 by omega), g4.1]
    obtain ⟨f1', f2', f3', f4', f5', f6', f7', f8'⟩ := id fr
    have fa := FRM.at f7' f8' (nI b)
    have tb := t_nI (show b < 2147483648 by omega)
    have tZ := t_nI (show Z < 2147483648 by omega)
    by_cases z2 : b = Z
    · rw [if_neg (by rw [t_lt]; omega)]
      refine ⟨-1, _, N4, Or.inl rfl, rfl, ?_, fr.tr fa⟩
      rw [z2, m_end hz g4.2.1]
      rfl
    rw [if_pos (by rw [t_lt]; omega), gd_t (b_in (by omega) (by omega)), ix_nI (by omega), wI_row _ _ _ _ (show 19 ≠ 18 by omega), m_2 hz g4.2.1 (by omega) (b3.resolve_left z2)]
    have he := g4.eq (i := b) (by omega) (x := 59) ⟨by decide, by decide⟩
    by_cases z3 : N4.1 147 b = 59
    · rw [if_pos (he.mpr z3), if_pos z3, mlet_e, nI_1, nI_1, wI_wI]
      obtain ⟨r, C', N', r1, r2, r3, r4⟩ := ih (b + 1) (k + 1) (wI C4 18 2 (nI (b + 1))) N4 (nI j) (by omega) (by omega) (by omega) (g4.up (mem_fst (by omega)) (wI_row _ _ _ _ (by omega)) rfl rfl) wI_s (by rw [wI_row _ _ _ _ (by omega)]; exact f7') (by rw [wI_row _ _ _ _ (by omega)]; exact f8') F1 K (by omega) (by omega)
      exact ⟨r, C', N', r1, r2, r3, (fr.tr (FRM.at f7' f8' (nI (b + 1)))).tr r4⟩
    · rw [if_neg (fun y => z3 (he.mp y)), if_neg z3]
      refine ⟨nI b, _, N4, Or.inr ⟨b, by omega, rfl⟩, ?_, rfl, fr.tr fa⟩
      unfold k0
      rw [wI_s]
