-- tours
theorem Rel_same0 {c : Nat} {C N C' N' : Mem} (h : Rel c C N) (h1 : same 0 118 C C') (h2 : C'.1 128 = C.1 128) (h3 : C'.1 134 = C.1 134) (h4 : same 138 159 N N') : Rel c C' N' := by
  have z := Rel_same h h1 h2 h3 h4
  obtain ⟨a, b, d, e, f, g, k⟩ := h
  exact ⟨RN_fr a (same_s h1 (by omega) (by omega)) (same_s h4 (by omega) (by omega)) (same_s h4 (by omega) (by omega)), z.2.1, z.2.2.1, z.2.2.2.1, z.2.2.2.2.1, z.2.2.2.2.2.1, RI_fr k (by rw [(h1 0 (by omega) (by omega)).1]) (by rw [(h4 138 (by omega) (by omega)).1]) (same_s h1 (by omega) (by omega)) (h4 159 (by omega) (by omega)).1⟩
/-- a tour of m jetties lies in the reference's hand -/
def TP (N : Mem) (m : Nat) : Prop := m ≤ 20 ∧ ∀ i, i < m → 0 ≤ (N.1 160 i).toInt ∧ (N.1 160 i).toInt < (N.1 156 0).toInt
def spx (N : Mem) (i : Nat) : Int32 := if i = 0 then N.1 156 7 else N.1 143 (ix (N.1 160 (i - 1)))
theorem spx_s (N : Mem) (i : Nat) : spx N (i + 1) = N.1 143 (ix (N.1 160 i)) := by
  unfold spx
  rw [if_neg (by omega), Nat.add_sub_cancel]
def dpx (N : Mem) (s b : Int32) : Nat → Int32
  | 0 => 0
  | i + 1 => if nI i = b then dpx N s b i + lgx N (spx N i) (spx N (i + 1)) s + 1 + 3 * s else dpx N s b i + lgx N (spx N i) (spx N (i + 1)) s + 1
def cmx (N : Mem) (s b : Int32) (i : Nat) : Int32 := dpx N s b i + lgx N (spx N i) (spx N (i + 1)) s
theorem tells_L {C : Mem} {a1 a2 : Int32} {m : Nat} (h3 : 0 ≤ a1.toInt) (h4 : a1.toInt < 8) (hm : a2.toInt = m) (hm2 : m ≤ 40) : ∀ (n k : Nat), k + n = m → ∀ N : Mem, C.1 (ix a1 + 2) 1 = N.1 140 (ix a1) → bd (N.1 140 (ix a1)) 0 40 → (∀ i, i < 40 → C.2 (ix a1 + 10) i = N.2 141 (40 * ix a1 + i)) → (m : Int) ≤ (N.1 140 (ix a1)).toInt → C.1 20 1 = N.1 156 0 → ∀ F1, n < F1 → (fc_tellsJetties_L20 C a2 (ix a1) F1 (nI k) = some 0 ∧ ∃ i, k ≤ i ∧ i < m ∧ ((N.2 141 (40 * ix a1 + i)).toInt < 0 ∨ (N.1 156 0).toInt ≤ (N.2 141 (40 * ix a1 + i)).toInt)) ∨ (fc_tellsJetties_L20 C a2 (ix a1) F1 (nI k) = some 1 ∧ ∀ i, k ≤ i → i < m → 0 ≤ (N.2 141 (40 * ix a1 + i)).toInt ∧ (N.2 141 (40 * ix a1 + i)).toInt < (N.1 156 0).toInt) := by
  have hi := t_ix h3
  intro n
  induction n with
  | zero =>
    intro k hk N e4 e5 e6 hz e0 F1 h1
    obtain ⟨F1, rfl⟩ : ∃ m, F1 = m + 1 := ⟨F1 - 1, by omega⟩
    have tk := t_nI (show k < 2147483648 by omega)
    rw [fc_tellsJetties_L20, if_pos (by rw [t_le, tk]; omega)]
    exact Or.inr ⟨rfl, fun i x y => by omega⟩
  | succ n ih =>
    intro k hk N e4 e5 e6 hz e0 F1 h1
    obtain ⟨F1, rfl⟩ : ∃ m, F1 = m + 1 := ⟨F1 - 1, by omega⟩
    have tk := t_nI (show k < 2147483648 by omega)
    have xk := ix_nI (show k < 2147483648 by omega)
    obtain ⟨g1, g2, g3, g4⟩ := at_eq (C := C) (N := N) (s := ix a1) (by omega) (a1 := a1) (a2 := nI k) (by omega) rfl e4 e5 e6 (by omega) (by omega)
    have z0 : (0 : Int64).toInt = 0 := rfl
    rw [fc_tellsJetties_L20, if_neg (by rw [t_le, tk]; omega), g1, e0, xk]
    simp only [Option.bind_some, lgc_n, Int32.toInt_toInt64, z0, nI_1]
    by_cases q : (N.2 141 (40 * ix a1 + k)).toInt < 0
    · rw [if_pos q]
      exact Or.inl ⟨rfl, k, by omega, by omega, Or.inl q⟩
    · rw [if_neg q]
      by_cases q2 : (N.2 141 (40 * ix a1 + k)).toInt < (N.1 156 0).toInt
      · rw [if_pos q2]
        rcases ih (k + 1) (by omega) N e4 e5 e6 hz e0 F1 (by omega) with ⟨a, i, b, d, e⟩ | ⟨a, b⟩
        · exact Or.inl ⟨a, i, by omega, d, e⟩
        · refine Or.inr ⟨a, fun i x y => ?_⟩
          by_cases g : i = k
          · rw [g]; exact ⟨by omega, q2⟩
          · exact b i (by omega) y
      · rw [if_neg q2]
        exact Or.inl ⟨rfl, k, by omega, by omega, Or.inr (by omega)⟩
theorem take_L {a1 a2 : Int32} {m : Nat} (h3 : 0 ≤ a1.toInt) (h4 : a1.toInt < 8) (hm : a2.toInt = m) (hm2 : m ≤ 20) : ∀ (n k : Nat), k + n = m → ∀ N : Mem, ∀ F1, n < F1 → ((∀ i, k ≤ i → i < m → 0 ≤ (N.2 141 (40 * ix a1 + i)).toInt ∧ (N.2 141 (40 * ix a1 + i)).toInt < (N.1 156 0).toInt) → ∃ N', fm_take_L28 a1 a2 F1 (nI k) N = some (0, N') ∧ (∀ q, q ≠ 160 → N'.1 q = N.1 q) ∧ N'.2 = N.2 ∧ (∀ i, i < k → N'.1 160 i = N.1 160 i) ∧ ∀ i, k ≤ i → i < m → N'.1 160 i = Int64.toInt32 (N.2 141 (40 * ix a1 + i))) ∧ ((∃ i, k ≤ i ∧ i < m ∧ ((N.2 141 (40 * ix a1 + i)).toInt < 0 ∨ (N.1 156 0).toInt ≤ (N.2 141 (40 * ix a1 + i)).toInt)) → ∃ N', fm_take_L28 a1 a2 F1 (nI k) N = some (-2, N') ∧ (∀ q, q ≠ 160 → N'.1 q = N.1 q) ∧ N'.2 = N.2) := by
  have hi := t_ix h3
  intro n
  induction n with
  | zero =>
    intro k hk N F1 h1
    obtain ⟨F1, rfl⟩ : ∃ m, F1 = m + 1 := ⟨F1 - 1, by omega⟩
    have tk := t_nI (show k < 2147483648 by omega)
    refine ⟨fun _ => ?_, fun ⟨i, x, y, z⟩ => by omega⟩
    rw [fm_take_L28, if_pos (by rw [t_le, tk]; omega)]
    exact ⟨N, rfl, fun _ _ => rfl, rfl, fun _ _ => rfl, fun i x y => by omega⟩
  | succ n ih =>
    intro k hk N F1 h1
    obtain ⟨F1, rfl⟩ : ∃ m, F1 = m + 1 := ⟨F1 - 1, by omega⟩
    have tk := t_nI (show k < 2147483648 by omega)
    have xk := ix_nI (show k < 2147483648 by omega)
    have z0 : (0 : Int64).toInt = 0 := rfl
    have e := t_lin (x := 0) (y := 0) (a := a1) (b := nI k) h3 h4 (by omega) (by omega)
    have g := ix_lin (a := a1) (b := nI k) h3 h4 (by omega) (by omega)
    rw [xk] at g
    have hin : inb ((40 : Int32) * a1 + nI k) 320 := b_in (by omega) (by omega)
    have hin2 : inb (nI k) 20 := b_in (by omega) (by omega)
    rw [fm_take_L28, if_neg (by rw [t_le, tk]; omega), gd_t hin, g, llet_e]
    simp only [lgc_n, Int32.toInt_toInt64, z0, ix_0, gd_t hin2, mlet_e, xk, nI_1]
    obtain ⟨i1, i2⟩ := ih (k + 1) (by omega) (wI N 160 k (Int64.toInt32 (N.2 141 (40 * ix a1 + k)))) F1 (by omega)
    constructor
    · intro hg
      obtain ⟨g1, g2⟩ := hg k (by omega) (by omega)
      rw [if_neg (show ¬ (N.2 141 (40 * ix a1 + k)).toInt < 0 by omega), if_pos g2]
      obtain ⟨N', r1, r2, r3, r4, r5⟩ := i1 (fun i x y => by have := hg i (by omega) y; rw [mem_fst (by omega)]; exact this)
      refine ⟨N', r1, fun q hq => (r2 q hq).trans (wI_row _ _ _ _ hq), r3, fun i hi => (r4 i (by omega)).trans (mem_fst (by omega)), fun i x y => ?_⟩
      by_cases e : i = k
      · rw [e, r4 k (by omega), wI_s]
      · exact r5 i (by omega) y
    · rintro ⟨i, x, y, z⟩
      by_cases q : (N.2 141 (40 * ix a1 + k)).toInt < 0
      · rw [if_pos q]; exact ⟨N, rfl, fun _ _ => rfl, rfl⟩
      · rw [if_neg q]
        by_cases q2 : (N.2 141 (40 * ix a1 + k)).toInt < (N.1 156 0).toInt
        · rw [if_pos q2]
          have hik : i ≠ k := fun e => by rw [e] at z; omega
          obtain ⟨N', r1, r2, r3⟩ := i2 ⟨i, by omega, y, by rw [mem_fst (by omega)]; exact z⟩
          exact ⟨N', r1, fun q hq => (r2 q hq).trans (wI_row _ _ _ _ hq), r3⟩
        · rw [if_neg q2]; exact ⟨N, rfl, fun _ _ => rfl, rfl⟩
theorem readT_L {a1 a2 : Int32} {m : Nat} (h3 : 0 ≤ a1.toInt) (h4 : a1.toInt < 8) (hm : a2.toInt = m) (hm2 : m ≤ 20) : ∀ (n k : Nat), k + n = m → ∀ (C N : Mem), C.1 (ix a1 + 2) 1 = N.1 140 (ix a1) → bd (N.1 140 (ix a1)) 0 40 → (∀ i, i < 40 → C.2 (ix a1 + 10) i = N.2 141 (40 * ix a1 + i)) → (m : Int) ≤ (N.1 140 (ix a1)).toInt → ∀ F1, n < F1 → ∃ C', fc_readTour_L8 a1 a2 F1 (nI k) C = some C' ∧ (∀ q, q ≠ 120 → C'.1 q = C.1 q) ∧ C'.2 = C.2 ∧ (∀ i, i < k → C'.1 120 i = C.1 120 i) ∧ ∀ i, k ≤ i → i < m → C'.1 120 i = Int64.toInt32 (N.2 141 (40 * ix a1 + i)) := by
  have hi := t_ix h3
  have hin : inb a1 8 := b_in h3 h4
  intro n
  induction n with
  | zero =>
    intro k hk C N e4 e5 e6 hz F1 h1
    obtain ⟨F1, rfl⟩ : ∃ m, F1 = m + 1 := ⟨F1 - 1, by omega⟩
    have tk := t_nI (show k < 2147483648 by omega)
    rw [fc_readTour_L8, if_pos (by rw [t_le, tk]; omega)]
    exact ⟨C, rfl, fun _ _ => rfl, rfl, fun _ _ => rfl, fun i x y => by omega⟩
  | succ n ih =>
    intro k hk C N e4 e5 e6 hz F1 h1
    obtain ⟨F1, rfl⟩ : ∃ m, F1 = m + 1 := ⟨F1 - 1, by omega⟩
    have tk := t_nI (show k < 2147483648 by omega)
    have xk := ix_nI (show k < 2147483648 by omega)
    obtain ⟨g1, g2, g3, g4⟩ := at_eq (C := C) (N := N) (s := ix a1) (by omega) (a1 := a1) (a2 := nI k) (by omega) rfl e4 e5 e6 (by omega) (by omega)
    rw [fc_readTour_L8, if_neg (by rw [t_le, tk]; omega), gd_t hin, g1]
    simp only [Option.bind_some, mlet_e]
    rw [gd_t (b_in (by omega) (by omega)), xk, nI_1]
    obtain ⟨C', r1, r2, r3, r4, r5⟩ := ih (k + 1) (by omega) (wI C 120 k (Int64.toInt32 (N.2 141 (40 * ix a1 + k)))) N ((mem_fst (by omega)).trans e4) e5 e6 hz F1 (by omega)
    refine ⟨C', r1, fun q hq => (r2 q hq).trans (wI_row _ _ _ _ hq), r3, fun i hi => (r4 i (by omega)).trans (mem_fst (by omega)), fun i x y => ?_⟩
    by_cases e : i = k
    · rw [e, r4 k (by omega), wI_s]
    · exact r5 i (by omega) y
theorem readT_2_L {a1 a2 : Int32} {m : Nat} (h3 : 0 ≤ a1.toInt) (h4 : a1.toInt < 8) (hm : a2.toInt = m) (hm2 : m ≤ 20) : ∀ (n k : Nat), k + n = m → ∀ (C N : Mem), C.1 (ix a1 + 2) 1 = N.1 140 (ix a1) → bd (N.1 140 (ix a1)) 0 40 → (∀ i, i < 40 → C.2 (ix a1 + 10) i = N.2 141 (40 * ix a1 + i)) → (m : Int) ≤ (N.1 140 (ix a1)).toInt → ∀ F1, n < F1 → ∃ C', fc_readTour_2_L8 a1 a2 F1 (nI k) C = some C' ∧ (∀ q, q ≠ 123 → C'.1 q = C.1 q) ∧ C'.2 = C.2 ∧ (∀ i, i < k → C'.1 123 i = C.1 123 i) ∧ ∀ i, k ≤ i → i < m → C'.1 123 i = Int64.toInt32 (N.2 141 (40 * ix a1 + i)) := by
  have hi := t_ix h3
  have hin : inb a1 8 := b_in h3 h4
  intro n
  induction n with
  | zero =>
    intro k hk C N e4 e5 e6 hz F1 h1
    obtain ⟨F1, rfl⟩ : ∃ m, F1 = m + 1 := ⟨F1 - 1, by omega⟩
    have tk := t_nI (show k < 2147483648 by omega)
    rw [fc_readTour_2_L8, if_pos (by rw [t_le, tk]; omega)]
    exact ⟨C, rfl, fun _ _ => rfl, rfl, fun _ _ => rfl, fun i x y => by omega⟩
  | succ n ih =>
    intro k hk C N e4 e5 e6 hz F1 h1
    obtain ⟨F1, rfl⟩ : ∃ m, F1 = m + 1 := ⟨F1 - 1, by omega⟩
    have tk := t_nI (show k < 2147483648 by omega)
    have xk := ix_nI (show k < 2147483648 by omega)
    obtain ⟨g1, g2, g3, g4⟩ := at_eq (C := C) (N := N) (s := ix a1) (by omega) (a1 := a1) (a2 := nI k) (by omega) rfl e4 e5 e6 (by omega) (by omega)
    rw [fc_readTour_2_L8, if_neg (by rw [t_le, tk]; omega), gd_t hin, g1]
    simp only [Option.bind_some, mlet_e]
    rw [gd_t (b_in (by omega) (by omega)), xk, nI_1]
    obtain ⟨C', r1, r2, r3, r4, r5⟩ := ih (k + 1) (by omega) (wI C 123 k (Int64.toInt32 (N.2 141 (40 * ix a1 + k)))) N ((mem_fst (by omega)).trans e4) e5 e6 hz F1 (by omega)
    refine ⟨C', r1, fun q hq => (r2 q hq).trans (wI_row _ _ _ _ hq), r3, fun i hi => (r4 i (by omega)).trans (mem_fst (by omega)), fun i x y => ?_⟩
    by_cases e : i = k
    · rw [e, r4 k (by omega), wI_s]
    · exact r5 i (by omega) y

theorem same_of {M M' : Mem} {lo hi k : Nat} (h : ∀ q, q ≠ k → M'.1 q = M.1 q) (h2 : M'.2 = M.2) (hk : k < lo ∨ hi < k) : same lo hi M M' := fun q a b => ⟨h q (by omega), by rw [h2]⟩
/-- a tour taken from a shelf, or the refusal -/
theorem tour_t {c : Nat} {C N : Mem} (h : Rel c C N) {a1 a2 : Int32} (ha1 : 0 ≤ a2.toInt) (ha2 : a2.toInt ≤ 20) :
    (∃ r N', (r = -2 ∨ r = -3 ∨ r = -4) ∧ fc_roundTrouble C a1 a2 = some r ∧ fm_take N a1 a2 = some (r, N') ∧ Rel c C N') ∨
    (fc_roundTrouble C a1 a2 = some 0 ∧ ∃ N', fm_take N a1 a2 = some (0, N') ∧ Rel c C N' ∧ TP N' (ix a2) ∧ same 138 159 N N' ∧ ∀ C1, Rel c C1 N' → C1.1 (ix a1 + 2) = C.1 (ix a1 + 2) → C1.2 = C.2 →
      (∃ C', fc_readTour C1 a1 a2 = some C' ∧ Rel c C' N' ∧ C'.1 119 2 = a2 ∧ (∀ i, i < ix a2 → C'.1 120 i = N'.1 160 i) ∧ C'.2 = C1.2 ∧ ∀ q, q ≠ 119 → q ≠ 120 → C'.1 q = C1.1 q) ∧
      (∃ C', fc_readTour_2 C1 a1 a2 = some C' ∧ Rel c C' N' ∧ C'.1 122 2 = a2 ∧ (∀ i, i < ix a2 → C'.1 123 i = N'.1 160 i) ∧ C'.2 = C1.2 ∧ ∀ q, q ≠ 122 → q ≠ 123 → C'.1 q = C1.1 q)) := by
  obtain ⟨⟨hS, hJ, hL, hF, hA, hP, hW, hV⟩, -⟩ := id h
  obtain ⟨⟨e0, b0⟩, ⟨e1, b1⟩, ⟨e2, b2⟩, ⟨e3, b3⟩, ⟨e5, b5⟩, ⟨e6, b6⟩, ⟨e7, b7⟩, ⟨e4, b4⟩, e8⟩ := id hS
  obtain ⟨l0, u0⟩ := id b0
  obtain ⟨l1, u1⟩ := id b1
  obtain ⟨l2, u2⟩ := id b2
  obtain ⟨l3, u3⟩ := id b3
  obtain ⟨l5, u5⟩ := id b5
  obtain ⟨l6, u6⟩ := id b6
  obtain ⟨l7, u7⟩ := id b7
  obtain ⟨l4, u4⟩ := id b4
  have i2 := t_ix ha1
  unfold fc_roundTrouble fm_take
  rw [if_neg (show ¬ fc_isWithinT C a2 0 20 = 0 by rw [within_0]; simp only [Int32.reduceToInt]; omega)]
  rcases rowTs h a1 with ⟨r, hr, h1, h2⟩ | ⟨h1, h2, h3, h4, t, ht, x1, x2, x3, x4, x5, x6⟩
  · refine Or.inl ⟨r, N, hr, ?_, ?_, h⟩
    · rw [h1]
      simp only [Option.bind_some]
      rw [if_neg (by rcases hr with rfl | rfl | rfl <;> decide)]
    · rw [h2]
      simp only [Option.bind_some]
      rw [if_neg (by rcases hr with rfl | rfl | rfl <;> decide)]
  · have hi := t_ix h3
    have hin : inb a1 8 := b_in h3 h4
    rw [h1, h2]
    simp only [Option.bind_some, if_true, gd_t hin]
    rw [if_pos (show (0 : Int32) ≤ 0 by decide)]
    unfold fc_tellsJetties
    rw [gd_t hin, x4]
    by_cases hz : a2 ≤ N.1 140 (ix a1)
    · rw [if_pos hz, if_pos hz]
      rw [t_le] at hz
      have tl := take_L (m := ix a2) h3 h4 i2.symm (by omega) (ix a2) 0 (by omega) N FU (by rw [FU_eq]; omega)
      rcases tells_L (C := C) (m := ix a2) h3 h4 i2.symm (by omega) (ix a2) 0 (by omega) N x4 x5 x6 (by omega) e0 FU (by rw [FU_eq]; omega) with ⟨p1, p2⟩ | ⟨p1, p2⟩
      · obtain ⟨N', r1, r2, r3⟩ := tl.2 p2
        rw [show (0 : Int32) = nI 0 from rfl, p1, r1]
        refine Or.inl ⟨-2, N', Or.inl rfl, rfl, rfl, Rel_same0 h same_r rfl rfl (same_of r2 r3 (by omega))⟩
      · obtain ⟨N', r1, r2, r3, -, r5⟩ := tl.1 p2
        have hR : Rel c C N' := Rel_same0 h same_r rfl rfl (same_of r2 r3 (by omega))
        rw [show (0 : Int32) = nI 0 from rfl, p1, r1]
        refine Or.inr ⟨rfl, N', rfl, hR, ⟨by omega, fun i hi => ?_⟩, same_of r2 r3 (by omega), fun C1 hC1 y1 y2 => ?_⟩
        · have := p2 i (by omega) hi
          rw [r5 i (by omega) hi, r2 156 (by omega), l_i (by omega) (by omega)]
          exact this
        · have z4 : C1.1 (ix a1 + 2) 1 = N.1 140 (ix a1) := by rw [y1]; exact x4
          have z6 : ∀ i, i < 40 → C1.2 (ix a1 + 10) i = N.2 141 (40 * ix a1 + i) := by rw [y2]; exact x6
          constructor
          · obtain ⟨C', s1, s2, s3, -, s5⟩ := readT_L (m := ix a2) h3 h4 i2.symm (by omega) (ix a2) 0 (by omega) (wI C1 119 2 a2) N ((mem_fst (by omega)).trans z4) x5 z6 (by omega) FU (by rw [FU_eq]; omega)
            refine ⟨C', ?_, Rel_same0 hC1 (same_t (same_wI (by omega)) (same_of s2 s3 (by omega))) ((s2 128 (by omega)).trans (wI_row _ _ _ _ (by omega))) ((s2 134 (by omega)).trans (wI_row _ _ _ _ (by omega))) same_r, ?_, fun i hi => ?_, s3, fun q hq hq2 => (s2 q hq2).trans (wI_row _ _ _ _ hq)⟩
            · unfold fc_readTour
              rw [mlet_e]
              exact s1
            · rw [s2 119 (by omega), wI_s]
            · rw [s5 i (by omega) hi, r5 i (by omega) hi]
          · obtain ⟨C', s1, s2, s3, -, s5⟩ := readT_2_L (m := ix a2) h3 h4 i2.symm (by omega) (ix a2) 0 (by omega) (wI C1 122 2 a2) N ((mem_fst (by omega)).trans z4) x5 z6 (by omega) FU (by rw [FU_eq]; omega)
            refine ⟨C', ?_, Rel_same0 hC1 (same_t (same_wI (by omega)) (same_of s2 s3 (by omega))) ((s2 128 (by omega)).trans (wI_row _ _ _ _ (by omega))) ((s2 134 (by omega)).trans (wI_row _ _ _ _ (by omega))) same_r, ?_, fun i hi => ?_, s3, fun q hq hq2 => (s2 q hq2).trans (wI_row _ _ _ _ hq)⟩
            · unfold fc_readTour_2
              rw [mlet_e]
              exact s1
            · rw [s2 122 (by omega), wI_s]
            · rw [s5 i (by omega) hi, r5 i (by omega) hi]
    · rw [if_neg hz, if_neg hz]
      exact Or.inl ⟨-2, N, Or.inl rfl, rfl, rfl, h⟩
theorem sail_L {c : Nat} {N : Mem} {m : Nat} {s b : Int32} (hs : 1 ≤ s.toInt) (hT : TP N m) : ∀ (n k : Nat), k + n = m → ∀ C, Rel c C N → C.1 119 2 = nI m → (∀ i, i < m → C.1 120 i = N.1 160 i) → ∀ F1, n < F1 → ∃ C', fTour_sail_L12 s b F1 (spx N k) (dpx N s b k) (nI k) C = some C' ∧ (∀ q, q ≠ 121 → C'.1 q = C.1 q) ∧ C'.2 = C.2 ∧ (∀ i, i < k → C'.1 121 i = C.1 121 i) ∧ ∀ i, k ≤ i → i < m → C'.1 121 i = cmx N s b i := by
  obtain ⟨hm, hT⟩ := hT
  intro n
  induction n with
  | zero =>
    intro k hk C h e1 e2 F1 h1
    obtain ⟨F1, rfl⟩ : ∃ m, F1 = m + 1 := ⟨F1 - 1, by omega⟩
    have tk := t_nI (show k < 2147483648 by omega)
    have tm := t_nI (show m < 2147483648 by omega)
    rw [fTour_sail_L12, if_pos (by rw [t_le, e1, tk, tm]; omega)]
    exact ⟨C, rfl, fun _ _ => rfl, rfl, fun _ _ => rfl, fun i x y => by omega⟩
  | succ n ih =>
    intro k hk C h e1 e2 F1 h1
    obtain ⟨F1, rfl⟩ : ∃ m, F1 = m + 1 := ⟨F1 - 1, by omega⟩
    have tk := t_nI (show k < 2147483648 by omega)
    have tm := t_nI (show m < 2147483648 by omega)
    have xk := ix_nI (show k < 2147483648 by omega)
    obtain ⟨y1, y2⟩ := hT k (by omega)
    have L := LeapOK.of h
    have u0 := L.u0
    have yi := t_ix y1
    obtain ⟨-, ⟨q1, p1⟩, -⟩ := L.2.1 (ix (N.1 160 k)) (by omega)
    have hin : inb (nI k) 20 := b_in (by omega) (by omega)
    rw [fTour_sail_L12, if_neg (by rw [t_le, e1, tk, tm]; omega), gd_t hin, xk, e2 k (by omega), gd_t (b_in y1 (by omega)), ilet_e, q1, L.gc _ _ hs]
    simp only [Option.bind_some, gd_t hin, mlet_e, ilet_e, jlet_e, wI_s, nI_1]
    have hd : (if nI k = b then fTour_sail_L12 s b F1 (N.1 143 (ix (N.1 160 k))) (dpx N s b k + lgx N (spx N k) (N.1 143 (ix (N.1 160 k))) s + 1 + 3 * s) (nI (k + 1)) (wI C 121 k (dpx N s b k + lgx N (spx N k) (N.1 143 (ix (N.1 160 k))) s)) else fTour_sail_L12 s b F1 (N.1 143 (ix (N.1 160 k))) (dpx N s b k + lgx N (spx N k) (N.1 143 (ix (N.1 160 k))) s + 1) (nI (k + 1)) (wI C 121 k (dpx N s b k + lgx N (spx N k) (N.1 143 (ix (N.1 160 k))) s))) = fTour_sail_L12 s b F1 (spx N (k + 1)) (dpx N s b (k + 1)) (nI (k + 1)) (wI C 121 k (cmx N s b k)) := by
      rw [dpx, cmx, spx_s]
      split <;> rfl
    rw [hd]
    obtain ⟨C', r1, r2, r3, r4, r5⟩ := ih (k + 1) (by omega) (wI C 121 k (cmx N s b k)) (Rel_same0 h (same_wI (by omega)) (wI_row _ _ _ _ (by omega)) (wI_row _ _ _ _ (by omega)) same_r) ((mem_fst (by omega)).trans e1) (fun i hi => (mem_fst (by omega)).trans (e2 i hi)) F1 (by omega)
    refine ⟨C', r1, fun q hq => (r2 q hq).trans (wI_row _ _ _ _ hq), r3, fun i hi => (r4 i (by omega)).trans (mem_fst (by omega)), fun i x y => ?_⟩
    by_cases e : i = k
    · rw [e, r4 k (by omega), wI_s]
    · exact r5 i (by omega) y
theorem sail_c {c : Nat} {C N : Mem} (h : Rel c C N) {m : Nat} {s b : Int32} (hs : 1 ≤ s.toInt) (hT : TP N m) (e1 : C.1 119 2 = nI m) (e2 : ∀ i, i < m → C.1 120 i = N.1 160 i) : ∃ C', fTour_sail C s b = some C' ∧ (∀ q, q ≠ 121 → C'.1 q = C.1 q) ∧ C'.2 = C.2 ∧ ∀ i, i < m → C'.1 121 i = cmx N s b i := by
  obtain ⟨C', r1, r2, r3, -, r5⟩ := sail_L (c := c) hs hT m 0 (by omega) C h e1 e2 FU (by have := hT.1; rw [FU_eq]; omega) (b := b)
  refine ⟨C', ?_, r2, r3, fun i x => r5 i (by omega) x⟩
  unfold fTour_sail
  rw [ilet_e, h.1.1.2.2.2.2.2.2.1.1]
  exact r1
theorem sail_2_L {c : Nat} {N : Mem} {m : Nat} {s b : Int32} (hs : 1 ≤ s.toInt) (hT : TP N m) : ∀ (n k : Nat), k + n = m → ∀ C, Rel c C N → C.1 122 2 = nI m → (∀ i, i < m → C.1 123 i = N.1 160 i) → ∀ F1, n < F1 → ∃ C', fTour_sail_2_L12 s b F1 (spx N k) (dpx N s b k) (nI k) C = some C' ∧ (∀ q, q ≠ 124 → C'.1 q = C.1 q) ∧ C'.2 = C.2 ∧ (∀ i, i < k → C'.1 124 i = C.1 124 i) ∧ ∀ i, k ≤ i → i < m → C'.1 124 i = cmx N s b i := by
  obtain ⟨hm, hT⟩ := hT
  intro n
  induction n with
  | zero =>
    intro k hk C h e1 e2 F1 h1
    obtain ⟨F1, rfl⟩ : ∃ m, F1 = m + 1 := ⟨F1 - 1, by omega⟩
    have tk := t_nI (show k < 2147483648 by omega)
    have tm := t_nI (show m < 2147483648 by omega)
    rw [fTour_sail_2_L12, if_pos (by rw [t_le, e1, tk, tm]; omega)]
    exact ⟨C, rfl, fun _ _ => rfl, rfl, fun _ _ => rfl, fun i x y => by omega⟩
  | succ n ih =>
    intro k hk C h e1 e2 F1 h1
    obtain ⟨F1, rfl⟩ : ∃ m, F1 = m + 1 := ⟨F1 - 1, by omega⟩
    have tk := t_nI (show k < 2147483648 by omega)
    have tm := t_nI (show m < 2147483648 by omega)
    have xk := ix_nI (show k < 2147483648 by omega)
    obtain ⟨y1, y2⟩ := hT k (by omega)
    have L := LeapOK.of h
    have u0 := L.u0
    have yi := t_ix y1
    obtain ⟨-, ⟨q1, p1⟩, -⟩ := L.2.1 (ix (N.1 160 k)) (by omega)
    have hin : inb (nI k) 20 := b_in (by omega) (by omega)
    rw [fTour_sail_2_L12, if_neg (by rw [t_le, e1, tk, tm]; omega), gd_t hin, xk, e2 k (by omega), gd_t (b_in y1 (by omega)), ilet_e, q1, L.gc _ _ hs]
    simp only [Option.bind_some, gd_t hin, mlet_e, ilet_e, jlet_e, wI_s, nI_1]
    have hd : (if nI k = b then fTour_sail_2_L12 s b F1 (N.1 143 (ix (N.1 160 k))) (dpx N s b k + lgx N (spx N k) (N.1 143 (ix (N.1 160 k))) s + 1 + 3 * s) (nI (k + 1)) (wI C 124 k (dpx N s b k + lgx N (spx N k) (N.1 143 (ix (N.1 160 k))) s)) else fTour_sail_2_L12 s b F1 (N.1 143 (ix (N.1 160 k))) (dpx N s b k + lgx N (spx N k) (N.1 143 (ix (N.1 160 k))) s + 1) (nI (k + 1)) (wI C 124 k (dpx N s b k + lgx N (spx N k) (N.1 143 (ix (N.1 160 k))) s))) = fTour_sail_2_L12 s b F1 (spx N (k + 1)) (dpx N s b (k + 1)) (nI (k + 1)) (wI C 124 k (cmx N s b k)) := by
      rw [dpx, cmx, spx_s]
      split <;> rfl
    rw [hd]
    obtain ⟨C', r1, r2, r3, r4, r5⟩ := ih (k + 1) (by omega) (wI C 124 k (cmx N s b k)) (Rel_same0 h (same_wI (by omega)) (wI_row _ _ _ _ (by omega)) (wI_row _ _ _ _ (by omega)) same_r) ((mem_fst (by omega)).trans e1) (fun i hi => (mem_fst (by omega)).trans (e2 i hi)) F1 (by omega)
    refine ⟨C', r1, fun q hq => (r2 q hq).trans (wI_row _ _ _ _ hq), r3, fun i hi => (r4 i (by omega)).trans (mem_fst (by omega)), fun i x y => ?_⟩
    by_cases e : i = k
    · rw [e, r4 k (by omega), wI_s]
    · exact r5 i (by omega) y
theorem sail_2_c {c : Nat} {C N : Mem} (h : Rel c C N) {m : Nat} {s b : Int32} (hs : 1 ≤ s.toInt) (hT : TP N m) (e1 : C.1 122 2 = nI m) (e2 : ∀ i, i < m → C.1 123 i = N.1 160 i) : ∃ C', fTour_sail_2 C s b = some C' ∧ (∀ q, q ≠ 124 → C'.1 q = C.1 q) ∧ C'.2 = C.2 ∧ ∀ i, i < m → C'.1 124 i = cmx N s b i := by
  obtain ⟨C', r1, r2, r3, -, r5⟩ := sail_2_L (c := c) hs hT m 0 (by omega) C h e1 e2 FU (by have := hT.1; rw [FU_eq]; omega) (b := b)
  refine ⟨C', ?_, r2, r3, fun i x => r5 i (by omega) x⟩
  unfold fTour_sail_2
  rw [ilet_e, h.1.1.2.2.2.2.2.2.1.1]
  exact r1
